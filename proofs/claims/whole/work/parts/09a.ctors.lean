/-! ===== constructors (printed by ctors.py) ===== -/
def bw_sel {α : Type} : List Nat → List α → List α
  | [], l => l
  | i :: is, l => match l[i]? with
    | some x => x :: bw_sel is (l.eraseIdx i)
    | none => l
theorem bw_pick {α : Type} : ∀ (l : List α) (i : Nat) (x : α), l[i]? = some x → l.Perm (x :: l.eraseIdx i)
  | [], i, x, h => by simp at h
  | a :: l, 0, x, h => by
    have : a = x := by simpa using h
    subst this
    exact List.Perm.refl _
  | a :: l, i + 1, x, h => (List.Perm.cons a (bw_pick l i x (by simpa using h))).trans (List.Perm.swap x a _)
theorem bw_sel_perm {α : Type} : ∀ (is : List Nat) (l : List α), l.Perm (bw_sel is l)
  | [], l => List.Perm.refl l
  | i :: is, l => by
    unfold bw_sel
    split
    · rename_i x hx
      exact (bw_pick l i x hx).trans (List.Perm.cons _ (bw_sel_perm is _))
    · exact List.Perm.refl l
def bw_QC {α : Type} (G : va_G) (ok : α → Prop) (wf : α → va_W) (A : Nat → Prop) : Array Value → State → Outcome → State → Prop := fun _ st oc t => oc = .returned none ∧ (∃ a : α, ok a ∧ va_P G vwCl (wf a) t.heap ∧ va_D A (wf a)) ∧ va_F A st t
abbrev bw_rmc (f loc mc ms : Nat) : Room := { frames := f, cells := mc, slots := ms, locals := loc }
/-- the contract of a constructor: the cells that it makes come at addresses a -/
def bw_MC {α : Type} (l : Launch) (y : MethodName) (cc : ByteArray) (n : Nat) (f loc mc ms : Nat) (G : va_G) (cy : Nat → ClassId) (g : Nat) (av : List Value) (ws : va_W) (ok : α → Prop) (wf : α → va_W) : Prop :=
  ∀ sz : Nat, Met l y (bw_ws y cc n none) (bw_rmc f loc mc ms) (va_Pc av (bw_B G cy g ws sz)) (bw_QC G ok wf (va_A ws sz)) mc ms (va_A ws sz)
section BWC
variable {p : Program} {l : Launch} {e : Env} {R : Room} {s : State} {m : MethodId} {args : Array Value} {below : List Frame} {meth : Method} {c : Code} {H : Heap} {locs : List Loc} {cells slots : Nat} {Q : State → Prop}
variable {cc : ByteArray} {nL pc : Nat} {ls : Array Slot} {rest : List Value} {G : va_G} {cy : Nat → ClassId} {A : Nat → Prop} {H0 : Heap} {ws : va_W} {own : String} {x0 : Cond} {a g mc ms : Nat}
theorem bw_new (S : CallFix p m c cc nL s args (x0 :: bw_L) own) (hK : va_K G vwCl (bw_tys cy) s) (hI : bw_I G A H0 ws H locs) (ci : Nat) {N index : Nat} {C : String} {T : u_T} (fs : List Value) (ty0 : Nat → FieldType) (hty : ∀ k, k < N → parseFieldDescriptor (T k).2.2.1 = some (ty0 k)) (hin : ∀ w ∈ u_ws C T N, w ∈ bw_L)
    (hcl : Cond.classLink own index C ∈ bw_L) (hinst : Cond.instantiable C N ∈ bw_L) (hini : Cond.initialized C ∈ bw_L) (hc : vwCl[ci]? = some (C, T, N)) (hfs : ∀ j, j < N → defaultValue (ty0 j) = vp_V fs j) (hcells : cells + 1 ≤ R.cells) (hslots : slots + N ≤ R.slots) (hdg : decode cc pc = .ok (.new index, 3))
    (kk : ∀ (q : Nat) (H1 : Heap), bw_I G A H0 (ws ++ [(q, .inr (ci, fs))]) H1 locs → W p l e R s m args below meth c H1 locs (cells + 1) (slots + N) Q (F0 m (pc + 3) ls (.ref q :: rest))) : W p l e R s m args below meth c H locs cells slots Q (F0 m pc ls rest) := by
  obtain ⟨hx, hb, -, hown, hts⟩ := S
  exact va_new hx hb hts (fun w h => List.mem_cons_of_mem _ (hin w h)) ty0 hty hown (hts _ (List.mem_cons_of_mem _ hcl)) (hts _ (List.mem_cons_of_mem _ hinst)) (hts _ (List.mem_cons_of_mem _ hini)) hK hI.1 hI.2.1 hI.2.2.1 hI.2.2.2 hc hfs hcells hslots hdg (fun q H1 h1 h2 h3 => kk q H1 ⟨h1, h2, h3, hI.2.2.2⟩)
theorem bw_newi (S : CallFix p m c cc nL s args (x0 :: bw_L) own) (hK : va_K G vwCl (bw_tys cy) s) (hI : bw_I G A H0 ws H locs) (harr : Cond.arrayClass .int ∈ bw_L) {n : Int32} (N : Nat) (hn : ¬ n < 0) (hN : n.toNatClampNeg = N) (hsm : N * componentBytes .int ≤ 536870912) (hcells : cells + 1 ≤ R.cells) (hslots : slots + N ≤ R.slots) (hdg : decode cc pc = .ok (.newarray .int, 2))
    (kk : ∀ (q : Nat) (H1 : Heap), bw_I G A H0 (ws ++ [(q, .inl (cy 0, N, .inl (fun _ => 0)))]) H1 locs → W p l e R s m args below meth c H1 locs (cells + 1) (slots + N) Q (F0 m (pc + 2) ls (.ref q :: rest))) : W p l e R s m args below meth c H locs cells slots Q (F0 m pc ls (.int n :: rest)) := by
  obtain ⟨hx, hb, -, hown, hts⟩ := S
  refine va_newa (a0 := (N, .inl (fun _ => 0))) (atype := .int) (ty := .int) hx hb (hts _ (List.mem_cons_of_mem _ harr)) rfl hK hI.1 hI.2.1 hI.2.2.1 hI.2.2.2 (fun cA => rfl) hn hN hsm hcells hslots hdg (fun q cA H1 hK1 h1 h2 h3 => ?_)
  have e1 : s.vm.findClass ("[" ++ FieldType.int.toString) = some cA := (hK1.2 3 (cA, .int) rfl).2
  have e2 : s.vm.findClass ("[" ++ FieldType.int.toString) = some (cy 0) := (hK.2 0 (cy 0, .int) rfl).2
  have e3 : cA = cy 0 := Option.some.inj (e1.symm.trans e2)
  subst e3
  exact kk q H1 ⟨h1, h2, h3, hI.2.2.2⟩
theorem bw_newq (S : CallFix p m c cc nL s args (x0 :: bw_L) own) (hK : va_K G vwCl (bw_tys cy) s) (hI : bw_I G A H0 ws H locs) {index : Nat} (hcl : Cond.classLink own index "BufferLoans$Desk" ∈ bw_L) (hov : va_AO "BufferLoans$Desk" s) {n : Int32} (N : Nat) (hn : ¬ n < 0) (hN : n.toNatClampNeg = N) (hsm : N * 4 ≤ 536870912) (hcells : cells + 1 ≤ R.cells) (hslots : slots + N ≤ R.slots) (hdg : decode cc pc = .ok (.anewarray index, 3))
    (kk : ∀ (q : Nat) (H1 : Heap), bw_I G A H0 (ws ++ [(q, .inl (cy 2, N, .inr (.inr (.inr (.inr (fun _ => none))))))]) H1 locs → W p l e R s m args below meth c H1 locs (cells + 1) (slots + N) Q (F0 m (pc + 3) ls (.ref q :: rest))) : W p l e R s m args below meth c H locs cells slots Q (F0 m pc ls (.int n :: rest)) := by
  obtain ⟨hx, hb, -, hown, hts⟩ := S
  refine va_newq (C := "BufferLoans$Desk") hx hb hown (hts _ (List.mem_cons_of_mem _ hcl)) hov hK hI.1 hI.2.1 hI.2.2.1 hI.2.2.2 hn hN hsm hcells hslots hdg (fun q cA H1 hK1 h1 h2 h3 => ?_)
  obtain ⟨kA, comp, -, -, -, e1⟩ := (hK1.2 3 (cA, .object "BufferLoans$Desk") rfl).2
  obtain ⟨kA2, comp2, -, -, -, e2⟩ := (hK.2 2 (cy 2, .object "BufferLoans$Desk") rfl).2
  have e3 : cA = cy 2 := Option.some.inj (e1.symm.trans e2)
  subst e3
  exact kk q H1 ⟨h1, h2, h3, hI.2.2.2⟩
theorem bw_putF (S : CallFix p m c cc nL s args (x0 :: bw_L) own) (hK : va_K G vwCl (bw_tys cy) s) (hI : bw_I G A H0 ws H locs) (hini : meth.name = "<init>") (q0 k : Nat) {ci N index : Nat} {C : String} {T : u_T} {fs : List Value} {v : Value} {ws' : va_W} (ty0 : Nat → FieldType) (hty : ∀ k, k < N → parseFieldDescriptor (T k).2.2.1 = some (ty0 k)) (hnm : ∀ a, a < N → ∀ b, b < N → a ≠ b → (T a).2.1 ≠ (T b).2.1)
    (he : ws[q0]? = some (a, .inr (ci, fs))) (hc : vwCl[ci]? = some (C, T, N)) (hk : k < N) (hin : ∀ w ∈ u_ws C T N, w ∈ bw_L) (hlink : Cond.fieldLink own index (T k).1 (T k).2.1 (T k).2.2.1 ∈ bw_L) (hfin : (T k).2.2.2 = true) (hdecl : (T k).1 = own) {ty : FieldType} (hd : ty0 k = ty) (hn : narrow ty v = v) (hfit : fits ty v = true) (hl : k < fs.length) (hw : ws.set q0 (a, .inr (ci, fs.set k v)) = ws')
    (hdg : decode cc pc = .ok (.putfield index, 3)) (kk : ∀ (H1 : Heap) (locs1 : List Loc), bw_I G A H0 ws' H1 locs1 → W p l e R s m args below meth c H1 locs1 cells slots Q (F0 m (pc + 3) ls rest)) : W p l e R s m args below meth c H locs cells slots Q (F0 m pc ls (v :: .ref a :: rest)) := by
  obtain ⟨hx, hb, -, hown, hts⟩ := S
  subst hw
  refine va_putF hx hb hts (fun w h => List.mem_cons_of_mem _ (hin w h)) ty0 hty hnm hown hK hI.1 hI.2.1 hI.2.2.1 q0 he hc k hk (hts _ (List.mem_cons_of_mem _ hlink)) (fun _ h => h) hfin hini hdecl (by rw [hty k hk, hd]) hn hfit hl hdg (fun H1 locs1 h1 h2 h3 => kk H1 locs1 ⟨h1, h2, h3, hI.2.2.2⟩)
theorem bw_obj (S : CallFix p m c cc nL s args (x0 :: bw_L) own) (hsz : ls.size = nL) {idx : Nat} (hlink : Cond.methodLink own idx Lib.objectInit ∈ bw_L) (hinst : Cond.instanceMethod Lib.objectInit ∈ bw_L) (hcode : Cond.code Lib.objectInit ⟨#[0xb1]⟩ 1 none ∈ bw_L) (hd : decode cc pc = .ok (.invokespecial idx, 3)) (hframes : 1 ≤ R.frames) (hlocals : (rest.map fun v => v.category).sum + 12 ≤ R.locals)
    (kk : W p l e R s m args below meth c H locs cells slots Q (F0 m (pc + 3) ls rest)) : W p l e R s m args below meth c H locs cells slots Q (F0 m pc ls (.ref a :: rest)) := by
  obtain ⟨hx, hb, hml, hown, hts⟩ := S
  refine W.objInit hx hb hown (hts _ (List.mem_cons_of_mem _ hlink)) (hts _ (List.mem_cons_of_mem _ hinst)) (hts _ (List.mem_cons_of_mem _ hcode)) rfl (by rw [hml]; exact hsz) rfl hd hframes (by show 2 * 0 + _ + 12 ≤ _; omega) ?_
  exact W.eq (g2 := F0 m (pc + 3) ls rest) rfl kk
theorem bw_goC {α : Type} {ok : α → Prop} {wf : α → va_W} {wc rs : va_W} {st0 : List Value} {av : Array Value} (hr : va_Run p l e R s m args below meth c H locs cells slots mc ms (F0 m pc ls st0) rest (bw_QC G ok wf (va_A wc H.size) av) (va_A wc H.size)) (hI : bw_I G A H0 ws H locs) (he : ws.Perm (wc ++ rs))
    (kk : ∀ (b : α) (H1 : Heap) (locs1 : List Loc), ok b → bw_I G A H0 (wf b ++ rs) H1 locs1 → W p l e R s m args below meth c H1 locs1 (cells + mc) (slots + ms) Q (F0 m (pc + 3) ls rest)) : W p l e R s m args below meth c H locs cells slots Q (F0 m pc ls st0) := by
  intro T hT X
  obtain ⟨v, st₀, t, T', L, h0, X', hL, e1, e2, ⟨hv, ⟨b, hok, hP1, hD1⟩, hz, hk⟩, st⟩ := hr T hT X
  have hv : v = none := by injection hv
  subst hv
  rw [h0] at hz hk
  have hsub := bw_sub hI he
  have hS := hI.2.2.1
  obtain ⟨hPp, hDp, -, hA⟩ := bw_perm hI he
  have hdd := bw_D_iff.mp hDp
  have hd1 := bw_D_iff.mp hD1
  have hS1 : va_S A H0 T'.heap (locs ++ L) := ⟨Nat.le_trans hS.1 (by rw [e1]; exact hz), fun q h1 h2 => by rw [e1, hk q (Nat.lt_of_lt_of_le h1 hS.1) (fun z => h2 (hsub q z))]; exact hS.2.1 q h1 h2, fun q hq => by
    rcases List.mem_append.mp hq with h | h
    · exact hS.2.2 q h
    · exact hsub _ (hL q h)⟩
  have hout : ∀ q ∈ rs, q.1 < H.size ∧ ¬ va_A wc H.size q.1 := by
    intro q hq
    have h2 := bw_P_iff.mp hPp q (List.mem_append_right _ hq)
    refine ⟨h2.lt, fun h3 => ?_⟩
    rcases bw_A_iff.mp h3 with h3 | h3
    · have hn := hdd.1
      rw [List.map_append, List.nodup_append] at hn
      exact hn.2.2 q.1 h3 q.1 (List.mem_map.mpr ⟨q, hq, rfl⟩) rfl
    · have := h2.lt
      omega
  have hI1 : bw_I G A H0 (wf b ++ rs) T'.heap (locs ++ L) := by
    refine ⟨?_, ?_, hS1, hA⟩
    · rw [bw_P_iff]
      intro q hq
      rcases List.mem_append.mp hq with h | h
      · rw [e1]; exact bw_P_iff.mp hP1 q h
      · obtain ⟨g1, g2⟩ := hout q h
        exact (bw_P_iff.mp hPp q (List.mem_append_right _ h)).kept (by rw [e1]; exact hk q.1 g1 g2)
    · rw [bw_D_iff]
      refine ⟨?_, fun q hq => ?_⟩
      · rw [List.map_append, List.nodup_append]
        refine ⟨hd1.1, ?_, ?_⟩
        · have hn := hdd.1
          rw [List.map_append, List.nodup_append] at hn
          exact hn.2.1
        · intro x hx y hy hxy
          obtain ⟨q1, h1, rfl⟩ := List.mem_map.mp hx
          obtain ⟨q2, h2, h3⟩ := List.mem_map.mp hy
          have := hd1.2 q1 h1
          rw [hxy, ← h3] at this
          exact (hout q2 h2).2 this
      · rcases List.mem_append.mp hq with h | h
        · exact hsub _ (hd1.2 q h)
        · exact hdd.2 q (List.mem_append_right _ h)
  obtain ⟨t2, a1, b1⟩ := kk b T'.heap (locs ++ L) hok hI1 T' rfl X'
  exact ⟨t2, st t2 a1, b1⟩
theorem bw_callC {α : Type} {ok : α → Prop} {wf : α → va_W} {y : MethodName} {bytes : ByteArray} {maxL n index f loc : Nat} {b : Addr} {As : List Value} {wc rs : va_W} (S : CallFix p m c cc nL s args (x0 :: bw_L) own) (hK : va_K G vwCl (bw_tys cy) s) (hZ : bw_Z g A s s.heap) (hI : bw_I G A s.heap ws H locs)
    (hM : bw_MC l y bytes maxL f loc mc ms G cy g (.ref b :: As) wc ok wf) (hY : bw_Y y bytes maxL none n) (hy1 : y.name = "<init>") (hin : Cond.instanceMethod y ∈ bw_L) (hl : Cond.methodLink own index y ∈ bw_L) (hR : f + 1 ≤ R.frames ∧ 8 + (maxL + 11) + loc ≤ R.locals)
    (he : ws.Perm (wc ++ rs)) (hn : As.length = n) (hsize : ls.size = nL) {st : List Value} (hst0 : As.reverse ++ .ref b :: rest = st) (hW : (rest.map fun v => v.category).sum ≤ 8) (hdg : decode cc pc = .ok (.invokespecial index, 3)) (hcs : cells + mc ≤ R.cells ∧ slots + ms ≤ R.slots)
    (kk : ∀ (b : α) (H1 : Heap) (locs1 : List Loc), ok b → bw_I G A s.heap (wf b ++ rs) H1 locs1 → W p l e R s m args below meth c H1 locs1 (cells + mc) (slots + ms) Q (F0 m (pc + 3) ls rest)) : W p l e R s m args below meth c H locs cells slots Q (F0 m pc ls st) := by
  subst hst0
  have hts := S.2.2.2.2
  exact bw_goC (va_runI (As := As) (rest := rest) S (hM H.size) ⟨bw_cb (rm := bw_rmc f loc mc ms) hts hY hl hR rfl rfl, hy1, hts _ (List.mem_cons_of_mem _ hin)⟩ ⟨bw_blind, bw_pre hK hZ hI he⟩ rfl hn hsize rfl (lv_room hW) hdg hcs) hI he kk
theorem bw_callCN {α : Type} {ok : α → Prop} {wf : α → va_W} {y : MethodName} {host : String} {bytes : ByteArray} {maxL n index f loc : Nat} {b : Addr} {As : List Value} {wc rs : va_W} (S : CallFix p m c cc nL s args (x0 :: bw_L) own) (hK : va_K G vwCl (bw_tys cy) s) (hZ : bw_Z g A s s.heap) (hI : bw_I G A s.heap ws H locs)
    (hM : bw_MC l y bytes maxL f loc mc ms G cy g (.ref b :: As) wc ok wf) (hY : bw_Y y bytes maxL none n) (hy1 : y.name = "<init>") (hin : Cond.instanceMethod y ∈ bw_L) (hl : va_Nw (.methodLinkNest own index y host) s) (hR : f + 1 ≤ R.frames ∧ 8 + (maxL + 11) + loc ≤ R.locals)
    (he : ws.Perm (wc ++ rs)) (hn : As.length = n) (hsize : ls.size = nL) {st : List Value} (hst0 : As.reverse ++ .ref b :: rest = st) (hW : (rest.map fun v => v.category).sum ≤ 8) (hdg : decode cc pc = .ok (.invokespecial index, 3)) (hcs : cells + mc ≤ R.cells ∧ slots + ms ≤ R.slots)
    (kk : ∀ (b : α) (H1 : Heap) (locs1 : List Loc), ok b → bw_I G A s.heap (wf b ++ rs) H1 locs1 → W p l e R s m args below meth c H1 locs1 (cells + mc) (slots + ms) Q (F0 m (pc + 3) ls rest)) : W p l e R s m args below meth c H locs cells slots Q (F0 m pc ls st) := by
  subst hst0
  have hts := S.2.2.2.2
  obtain ⟨y1, y2, y3, y4⟩ := hY
  exact bw_goC (va_runIN (As := As) (rest := rest) S (hM H.size) ⟨va_cnB (rm := bw_rmc f loc mc ms) n hts (bw_good y1) rfl rfl rfl hl (hts _ (List.mem_cons_of_mem _ y2)) ⟨y3.1, y3.2, y4⟩ hR, hy1, hts _ (List.mem_cons_of_mem _ hin)⟩ ⟨bw_blind, bw_pre hK hZ hI he⟩ rfl hn hsize rfl (lv_room hW) hdg hcs) hI he kk
theorem bw_cret {α : Type} {ok : α → Prop} {wf : α → va_W} (S : CallFix p m c cc nL s args (x0 :: bw_L) own) (hr : meth.sig.returnType = none) (hlocks : meth.locks = false) (b : α) (hok : ok b) (hI : bw_I G A s.heap (wf b) H locs) (hc : cells ≤ mc) (hs : slots ≤ ms) (hdg : decode cc pc = .ok (.return_, 1)) (hQ : MQ below (bw_QC G ok wf A) args s mc ms A = Q) : W p l e R s m args below meth c H locs cells slots Q (F0 m pc ls []) := by
  subst hQ
  refine W.widen hc hs ?_
  exact W.vret S.1 S.2.1 hr (fun t ht hW => ⟨rfl, ⟨b, hok, by rw [ht]; exact hI.1, hI.2.1⟩, hI.2.2.1.F ht⟩) hI.2.2.1.2.2 hdg hlocks
theorem bw_getsN (S : CallFix p m c cc nL s args (x0 :: bw_L) own) (hZ : bw_Z g A s s.heap) (hI : bw_I G A s.heap ws H locs) {index : Nat} {host : String} (hlink : va_Nw (.fieldLinkNest own index "BufferLoans" "GREATEST_VALUES" "[I" host) s) (hdg : decode cc pc = .ok (.getstatic index, 3)) (kk : W p l e R s m args below meth c H locs cells slots Q (F0 m (pc + 3) ls (.ref g :: rest))) : W p l e R s m args below meth c H locs cells slots Q (F0 m pc ls rest) := by
  obtain ⟨hx, hb, -, hown, hts⟩ := S
  exact va_getsN hx hb hZ.1 hI.2.2.1 hown (va_Nw.use (A := args) rfl hlink) (fun _ h => h) hdg kk
theorem bw_astq (hx : p.tables.exec = Jvm.exec) (hb : c.code = cc) (hK : va_K G vwCl (bw_tys cy) s) (hI : bw_I G A H0 ws H locs) (q0 qk : Nat) {n v : Nat} {vs : List Value} {f : Nat → Option Nat} {ws' : va_W} (ha : ws[q0]? = some (a, .inl (cy 2, n, .inr (.inr (.inr (.inr f)))))) (hv : ws[qk]? = some (v, .inr (0, vs))) {i : Int32} (hin : vp_in i n) (hw : ws.set q0 (a, .inl (cy 2, n, .inr (.inr (.inr (.inr (va_up f i.toNatClampNeg (some v))))))) = ws') (hdg : decode cc pc = .ok (.aastore, 1))
    (kk : ∀ (H1 : Heap) (locs1 : List Loc), bw_I G A H0 ws' H1 locs1 → W p l e R s m args below meth c H1 locs1 cells slots Q (F0 m (pc + 1) ls rest)) : W p l e R s m args below meth c H locs cells slots Q (F0 m pc ls (.ref v :: .int i :: .ref a :: rest)) := by
  subst hw
  exact va_astq hx hb hK hI.1 hI.2.1 hI.2.2.1 q0 2 qk 0 (r := (RX0, TX0, 7)) ha rfl hv rfl hin hdg (fun H1 locs1 q1 q2 q3 => kk H1 locs1 ⟨q1, q2, q3, hI.2.2.2⟩)
end BWC
theorem bw_ofWC {α : Type} {ok : α → Prop} {wf : α → va_W} {l : Launch} {y : MethodName} {cc : ByteArray} {n : Nat} {f loc mc ms : Nat} {G : va_G} {cy : Nat → ClassId} {g : Nat} {av : List Value} {ws : va_W} (hy : plainName y.cls = true) (own : String) (ho : y.cls = own) (hyn : y.name = "<init>") (hlen : (lg_sl av).length ≤ n)
    (body : ∀ (p : Program) (e : Env) (s : State) (m : MethodId) (below : List Frame) (meth : Method) (c : Code) (ls : Array Slot), CallFix p m c cc n s av.toArray (Cond.code y cc n none :: bw_L) own → meth.sig.returnType = none → meth.locks = false → meth.name = "<init>" → va_K G vwCl (bw_tys cy) s → bw_Z g (va_A ws s.heap.size) s s.heap → bw_I G (va_A ws s.heap.size) s.heap ws s.heap [] → lv_has ls n (lv_args 0 av) →
      W p l e (bw_rmc f loc mc ms) s m av.toArray below meth c s.heap [] 0 0 (MQ below (bw_QC G ok wf (va_A ws s.heap.size)) av.toArray s mc ms (va_A ws s.heap.size)) (F0 m 0 ls [])) : bw_MC l y cc n f loc mc ms G cy g av ws ok wf := by
  intro sz
  refine Met.ofW (cc := cc) (maxL := n) (ret := none) hy rfl ?_
  intro p e s m args below meth c s₁ B hml hv
  obtain ⟨rfl, hsz, hP, hK, hD0, hZ⟩ := hv
  have hts := atoms_spec (ws := bw_ws y cc n none) B.pre
  have hown : s.vm.findClass own = some m.cls := by rw [← ho]; exact findClass_of_methodNamed B.named
  subst hsz
  rw [lg_entry_eq]
  exact body p e s m below meth c _ ⟨B.exec, B.bytes, hml, hown, hts⟩ B.returns B.notSynchronized (by rw [← hyn]; exact (name_of_methodNamed B.named B.method).1) hK hZ ⟨hP, hD0.self, va_S.rf, fun q h => Or.inr h⟩ (lv_entry av hlen)
set_option maxRecDepth 100000 in
theorem l_JO_i : Cond.instanceMethod Lib.objectInit ∈ bw_L := bw_memT 23 rfl rfl
set_option maxRecDepth 100000 in
theorem l_JO_c : Cond.code Lib.objectInit ⟨#[0xb1]⟩ 1 none ∈ bw_L := bw_memT 24 (by decide +kernel) rfl
set_option maxRecDepth 100000 in
theorem l_JA_i : Cond.arrayClass .int ∈ bw_L := bw_memT 47 rfl rfl
theorem u_X0 : ∀ j, j < 7 → defaultValue (tyX0 j) = vp_V [.null, .null, .null, .null, .null, .int 0, .int 0] j := fun j hj => by
  match j, hj with
  | 0, _ => rfl
  | 1, _ => rfl
  | 2, _ => rfl
  | 3, _ => rfl
  | 4, _ => rfl
  | 5, _ => rfl
  | 6, _ => rfl
set_option maxRecDepth 100000 in
theorem Y_X0_init : bw_Y yX0_init cX0_init 1 none 0 := ⟨bw_memT 29 rfl rfl, bw_memT 2 rfl rfl, ⟨by decide +kernel, by decide +kernel⟩, by decide +kernel⟩
set_option maxRecDepth 100000 in
theorem V_X0_init : Cond.instanceMethod yX0_init ∈ bw_L := bw_memT 28 rfl rfl
set_option maxRecDepth 100000 in
theorem n_X0 : Cond.instantiable RX0 7 ∈ bw_L := bw_memT 26 rfl rfl
set_option maxRecDepth 100000 in
theorem o_X0 : Cond.initialized RX0 ∈ bw_L := bw_memT 2 rfl rfl
theorem u_X1 : ∀ j, j < 3 → defaultValue (tyX1 j) = vp_V [.null, .int 0, .int 0] j := fun j hj => by
  match j, hj with
  | 0, _ => rfl
  | 1, _ => rfl
  | 2, _ => rfl
set_option maxRecDepth 100000 in
theorem Y_X1_init : bw_Y yX1_init cX1_init 2 none 0 := ⟨bw_memT 80 rfl rfl, bw_memT 5 rfl rfl, ⟨by decide +kernel, by decide +kernel⟩, by decide +kernel⟩
set_option maxRecDepth 100000 in
theorem V_X1_init : Cond.instanceMethod yX1_init ∈ bw_L := bw_memT 79 rfl rfl
set_option maxRecDepth 100000 in
theorem n_X1 : Cond.instantiable RX1 3 ∈ bw_L := bw_memT 77 rfl rfl
set_option maxRecDepth 100000 in
theorem o_X1 : Cond.initialized RX1 ∈ bw_L := bw_memT 5 rfl rfl
theorem u_X2 : ∀ j, j < 3 → defaultValue (tyX2 j) = vp_V [.int 0, .int 0, .int 0] j := fun j hj => by
  match j, hj with
  | 0, _ => rfl
  | 1, _ => rfl
  | 2, _ => rfl
set_option maxRecDepth 100000 in
theorem Y_X2_init : bw_Y yX2_init cX2_init 1 none 0 := ⟨bw_memT 105 rfl rfl, bw_memT 7 rfl rfl, ⟨by decide +kernel, by decide +kernel⟩, by decide +kernel⟩
set_option maxRecDepth 100000 in
theorem V_X2_init : Cond.instanceMethod yX2_init ∈ bw_L := bw_memT 104 rfl rfl
set_option maxRecDepth 100000 in
theorem n_X2 : Cond.instantiable RX2 3 ∈ bw_L := bw_memT 102 rfl rfl
set_option maxRecDepth 100000 in
theorem o_X2 : Cond.initialized RX2 ∈ bw_L := bw_memT 7 rfl rfl
theorem u_X3 : ∀ j, j < 2 → defaultValue (tyX3 j) = vp_V [.int 0, .null] j := fun j hj => by
  match j, hj with
  | 0, _ => rfl
  | 1, _ => rfl
set_option maxRecDepth 100000 in
theorem Y_X3_init : bw_Y yX3_init cX3_init 3 none 2 := ⟨bw_memT 35 rfl rfl, bw_memT 3 rfl rfl, ⟨by decide +kernel, by decide +kernel⟩, by decide +kernel⟩
set_option maxRecDepth 100000 in
theorem V_X3_init : Cond.instanceMethod yX3_init ∈ bw_L := bw_memT 34 rfl rfl
set_option maxRecDepth 100000 in
theorem n_X3 : Cond.instantiable RX3 2 ∈ bw_L := bw_memT 32 rfl rfl
set_option maxRecDepth 100000 in
theorem o_X3 : Cond.initialized RX3 ∈ bw_L := bw_memT 3 rfl rfl
theorem u_X4 : ∀ j, j < 3 → defaultValue (tyX4 j) = vp_V [.null, .null, .int 0] j := fun j hj => by
  match j, hj with
  | 0, _ => rfl
  | 1, _ => rfl
  | 2, _ => rfl
set_option maxRecDepth 100000 in
theorem Y_X4_init : bw_Y yX4_init cX4_init 1 none 0 := ⟨bw_memT 99 rfl rfl, bw_memT 6 rfl rfl, ⟨by decide +kernel, by decide +kernel⟩, by decide +kernel⟩
set_option maxRecDepth 100000 in
theorem V_X4_init : Cond.instanceMethod yX4_init ∈ bw_L := bw_memT 98 rfl rfl
set_option maxRecDepth 100000 in
theorem n_X4 : Cond.instantiable RX4 3 ∈ bw_L := bw_memT 96 rfl rfl
set_option maxRecDepth 100000 in
theorem o_X4 : Cond.initialized RX4 ∈ bw_L := bw_memT 6 rfl rfl
theorem u_X5 : ∀ j, j < 4 → defaultValue (tyX5 j) = vp_V [.null, .null, .null, .null] j := fun j hj => by
  match j, hj with
  | 0, _ => rfl
  | 1, _ => rfl
  | 2, _ => rfl
  | 3, _ => rfl
set_option maxRecDepth 100000 in
theorem Y_X5_init : bw_Y yX5_init cX5_init 1 none 0 := ⟨bw_memT 21 rfl rfl, bw_memT 1 rfl rfl, ⟨by decide +kernel, by decide +kernel⟩, by decide +kernel⟩
set_option maxRecDepth 100000 in
theorem V_X5_init : Cond.instanceMethod yX5_init ∈ bw_L := bw_memT 20 rfl rfl
theorem u_X6 : ∀ j, j < 17 → defaultValue (tyX6 j) = vp_V [.null, .null, .null, .int 0, .null, .int 0, .int 0, .null, .int 0, .int 0, .int 0, .int 0, .int 0, .int 0, .int 0, .null, .long 0] j := fun j hj => by
  match j, hj with
  | 0, _ => rfl
  | 1, _ => rfl
  | 2, _ => rfl
  | 3, _ => rfl
  | 4, _ => rfl
  | 5, _ => rfl
  | 6, _ => rfl
  | 7, _ => rfl
  | 8, _ => rfl
  | 9, _ => rfl
  | 10, _ => rfl
  | 11, _ => rfl
  | 12, _ => rfl
  | 13, _ => rfl
  | 14, _ => rfl
  | 15, _ => rfl
  | 16, _ => rfl
  | n + 17, h => exact absurd h (by omega)
set_option maxRecDepth 100000 in
theorem Y_X6_init : bw_Y yX6_init cX6_init 1 none 0 := ⟨bw_memT 756 rfl rfl, bw_memT 8 rfl rfl, ⟨by decide +kernel, by decide +kernel⟩, by decide +kernel⟩
set_option maxRecDepth 100000 in
theorem V_X6_init : Cond.instanceMethod yX6_init ∈ bw_L := bw_memT 755 rfl rfl
set_option maxRecDepth 100000 in
theorem l_X0_3 : (Jvm.Cond.methodLink "BufferLoans$Desk" (3 : Nat) ({ cls := "java/lang/Object", name := "<init>", desc := "()V" } : Jvm.MethodName)) ∈ bw_L := bw_memT 30 rfl rfl
set_option maxRecDepth 100000 in
theorem l_X1_3 : (Jvm.Cond.methodLink "BufferLoans$History" (3 : Nat) ({ cls := "java/lang/Object", name := "<init>", desc := "()V" } : Jvm.MethodName)) ∈ bw_L := bw_memT 81 rfl rfl
set_option maxRecDepth 100000 in
theorem l_X2_3 : (Jvm.Cond.methodLink "BufferLoans$Reader" (3 : Nat) ({ cls := "java/lang/Object", name := "<init>", desc := "()V" } : Jvm.MethodName)) ∈ bw_L := bw_memT 106 rfl rfl
set_option maxRecDepth 100000 in
theorem l_X3_1 : (Jvm.Cond.methodLink "BufferLoans$Table" (1 : Nat) ({ cls := "java/lang/Object", name := "<init>", desc := "()V" } : Jvm.MethodName)) ∈ bw_L := bw_memT 36 rfl rfl
set_option maxRecDepth 100000 in
theorem l_X4_3 : (Jvm.Cond.methodLink "BufferLoans$Text" (3 : Nat) ({ cls := "java/lang/Object", name := "<init>", desc := "()V" } : Jvm.MethodName)) ∈ bw_L := bw_memT 100 rfl rfl
set_option maxRecDepth 100000 in
theorem l_X5_3 : (Jvm.Cond.methodLink "BufferLoans" (3 : Nat) ({ cls := "java/lang/Object", name := "<init>", desc := "()V" } : Jvm.MethodName)) ∈ bw_L := bw_memT 22 rfl rfl
set_option maxRecDepth 100000 in
theorem l_X6_1 : (Jvm.Cond.methodLink "BufferLoansModel" (1 : Nat) ({ cls := "java/lang/Object", name := "<init>", desc := "()V" } : Jvm.MethodName)) ∈ bw_L := bw_memT 757 rfl rfl
set_option maxHeartbeats 4000000 in
set_option maxRecDepth 100000 in
theorem mX2_init (l : Launch) (G : va_G) (cy : Nat → ClassId) (g : Nat) (h : Nat) : bw_MC (α := Unit) l yX2_init cX2_init 1 1 12 0 0 G cy g [.ref h] [(h, .inr (2, [.int 0, .int 0, .int 0]))] (fun _ => True) (fun _ => bw_rW h 0 0 0) := by
  refine bw_ofWC (by decide +kernel) RX2 rfl rfl (Nat.le_of_ble_eq_true rfl) ?_
  intro p e s m below meth c ls S hr hlocks hini hK hZ hI hl
  have hx := S.1
  have hb := S.2.1
  have hts := S.2.2.2.2
  generalize va_A _ s.heap.size = A at hI hZ ⊢
  generalize hQ : MQ below _ _ s 0 0 A = Q
  have hl : lv_has ls 1 [(0, .ref h)] := hl
  refine lv_aload_n hx hb dX2_init_0 rfl (lv_at hl 0 rfl) ?_
  refine bw_obj S hl.1 (rest := []) l_X2_3 l_JO_i l_JO_c dX2_init_1 (Nat.le_of_ble_eq_true rfl) (Nat.le_of_ble_eq_true rfl) ?_
  exact bw_cret S hr hlocks () trivial hI (Nat.le_of_ble_eq_true rfl) (Nat.le_of_ble_eq_true rfl) dX2_init_4 hQ
set_option maxRecDepth 100000 in
theorem l_X3_13 : (Jvm.Cond.methodLink "BufferLoans$Table" (13 : Nat) ({ cls := "java/lang/Math", name := "max", desc := "(II)I" } : Jvm.MethodName)) ∈ bw_L := bw_memT 37 rfl rfl
set_option maxHeartbeats 4000000 in
set_option maxRecDepth 100000 in
theorem mX3_init (l : Launch) (G : va_G) (cy : Nat → ClassId) (g : Nat) (h n : Nat) (rw cl : Int32) (hn : bw_max 0 (rw * cl) = nI n) (hsm : n ≤ 1000) : bw_MC (α := Nat) l yX3_init cX3_init 3 1 21 1 n G cy g [.ref h, .int rw, .int cl] [(h, .inr (3, [.int 0, .null]))] (fun _ => True) (fun q => bw_tW cy h q n cl (fun _ => 0)) := by
  refine bw_ofWC (by decide +kernel) RX3 rfl rfl (Nat.le_of_ble_eq_true rfl) ?_
  intro p e s m below meth c ls S hr hlocks hini hK hZ hI hl
  have hx := S.1
  have hb := S.2.1
  have hts := S.2.2.2.2
  generalize va_A _ s.heap.size = A at hI hZ ⊢
  generalize hQ : MQ below _ _ s 1 _ A = Q
  have hl : lv_has ls 3 [(0, .ref h), (1, .int rw), (2, .int cl)] := hl
  refine lv_aload_n hx hb dX3_init_0 rfl (lv_at hl 0 rfl) ?_
  refine bw_obj S hl.1 (rest := []) l_X3_1 l_JO_i l_JO_c dX3_init_1 (Nat.le_of_ble_eq_true rfl) (Nat.le_of_ble_eq_true rfl) ?_
  refine lv_aload_n hx hb dX3_init_4 rfl (lv_at hl 0 rfl) ?_
  refine lv_iload_n hx hb dX3_init_5 rfl (lv_at hl 2 rfl) ?_
  refine bw_putF S hK hI hini 0 0 (ws' := [(h, .inr (3, [.int cl, .null]))]) tyX3 tyX3_ok nmX3 rfl rfl (by decide) i_X3 f_X3_7 rfl rfl rfl rfl rfl (Nat.le_of_ble_eq_true rfl) rfl dX3_init_6 (fun H locs hI => ?_)
  refine lv_aload_n hx hb dX3_init_9 rfl (lv_at hl 0 rfl) ?_
  refine lv_iconst (v := 0) hx hb dX3_init_10 rfl ?_
  refine lv_iload_n hx hb dX3_init_11 rfl (lv_at hl 1 rfl) ?_
  refine lv_iload_n hx hb dX3_init_12 rfl (lv_at hl 2 rfl) ?_
  refine lv_imul hx hb dX3_init_13 ?_
  refine bw_mmax S (rest := [.ref h]) hl.1 l_X3_13 l_JM_max_s l_JM_i l_JM_max_c (Nat.le_of_ble_eq_true rfl) (Nat.le_of_ble_eq_true rfl) ⟨Nat.zero_le _, Nat.zero_le _⟩ dX3_init_14 ?_
  rw [hn]
  refine bw_newi S hK hI l_JA_i n (nI_pos (by omega)) (nI_clamp (by omega)) (by show n * 4 ≤ _; omega) (Nat.le_of_ble_eq_true rfl) (by show 0 + n ≤ n; omega) dX3_init_17 (fun q H hI => ?_)
  refine bw_putF S hK hI hini 0 1 (ws' := [(h, .inr (3, [.int cl, .ref q])), (q, .inl (cy 0, n, .inl (fun _ => 0)))]) tyX3 tyX3_ok nmX3 rfl rfl (by decide) i_X3 f_X3_19 rfl rfl rfl rfl rfl (Nat.le_of_ble_eq_true rfl) rfl dX3_init_19 (fun H locs hI => ?_)
  exact bw_cret S hr hlocks q trivial hI (Nat.le_of_ble_eq_true rfl) (by show 0 + n ≤ n; omega) dX3_init_22 hQ
def bw_d0 : bw_A2 := fun j => if j = 3 then upd (upd (fun _ => 0) 1 30) 2 50 else fun _ => 0
theorem bw_put1 : fX3_put 3 3 (fun _ => 0) 0 1 30 = some (upd (fun _ => 0) 1 30) := by rfl
theorem bw_put2 : fX3_put 3 3 (upd (fun _ => 0) 1 30) 0 2 50 = some (upd (upd (fun _ => 0) 1 30) 2 50) := by rfl
set_option maxRecDepth 100000 in
theorem c_X0_9 : (Jvm.Cond.classLink "BufferLoans$Desk" (9 : Nat) "BufferLoans$Table") ∈ bw_L := bw_memT 31 rfl rfl
set_option maxRecDepth 100000 in
theorem l_X0_11 : (Jvm.Cond.methodLink "BufferLoans$Desk" (11 : Nat) ({ cls := "BufferLoans$Table", name := "<init>", desc := "(II)V" } : Jvm.MethodName)) ∈ bw_L := bw_memT 33 rfl rfl
set_option maxHeartbeats 4000000 in
set_option maxRecDepth 100000 in
theorem mX0_init (l : Launch) (G : va_G) (cy : Nat → ClassId) (g : Nat) (h : Nat) : bw_MC (α := (Nat → Nat)) l yX0_init cX0_init 1 2 43 10 493 G cy g [.ref h] [(h, .inr (0, [.null, .null, .null, .null, .null, .int 0, .int 0]))] (fun a => a 0 = h) (fun a => bw_dD cy a bw_d0) := by
  refine bw_ofWC (by decide +kernel) RX0 rfl rfl (Nat.le_of_ble_eq_true rfl) ?_
  intro p e s m below meth c ls S hr hlocks hini hK hZ hI hl
  have hx := S.1
  have hb := S.2.1
  have hts := S.2.2.2.2
  generalize va_A _ s.heap.size = A at hI hZ ⊢
  generalize hQ : MQ below _ _ s 10 493 A = Q
  have hl : lv_has ls 1 [(0, .ref h)] := hl
  refine lv_aload_n hx hb dX0_init_0 rfl (lv_at hl 0 rfl) ?_
  refine bw_obj S hl.1 (rest := []) l_X0_3 l_JO_i l_JO_c dX0_init_1 (Nat.le_of_ble_eq_true rfl) (Nat.le_of_ble_eq_true rfl) ?_
  refine lv_aload_n hx hb dX0_init_4 rfl (lv_at hl 0 rfl) ?_
  refine bw_new S hK hI 3 [.int 0, .null] tyX3 tyX3_ok i_X3 c_X0_9 n_X3 o_X3 rfl u_X3 (Nat.le_of_ble_eq_true rfl) (Nat.le_of_ble_eq_true rfl) dX0_init_5 (fun t0 H hI => ?_)
  refine lv_dup hx hb dX0_init_8 rfl ?_
  refine lv_bipush (v := 6) hx hb dX0_init_9 (by decide) ?_
  refine lv_bipush (v := 14) hx hb dX0_init_11 (by decide) ?_
  refine bw_callC S hK hZ hI (mX3_init l G cy g t0 84 6 14 (by decide) (by decide)) Y_X3_init rfl V_X3_init l_X0_11 ⟨(Nat.le_of_ble_eq_true rfl), (Nat.le_of_ble_eq_true rfl)⟩ (rs := ([(h, .inr (0, [.null, .null, .null, .null, .null, .int 0, .int 0]))])) (List.perm_append_comm) rfl hl.1 (rest := [.ref t0, .ref h]) rfl (Nat.le_of_ble_eq_true rfl) dX0_init_13 ⟨(Nat.le_of_ble_eq_true rfl), (Nat.le_of_ble_eq_true rfl)⟩ (fun r0 H locs _ hI => ?_)
  refine bw_putF S hK hI hini 2 0 (ws' := (bw_tW cy t0 r0 84 14 (fun _ => 0) ++ ([(h, .inr (0, [.ref t0, .null, .null, .null, .null, .int 0, .int 0]))]))) tyX0 tyX0_ok nmX0 rfl rfl (by decide) i_X0 f_X0_14 rfl rfl rfl rfl rfl (Nat.le_of_ble_eq_true rfl) rfl dX0_init_16 (fun H locs hI => ?_)
  refine lv_aload_n hx hb dX0_init_19 rfl (lv_at hl 0 rfl) ?_
  refine bw_new S hK hI 3 [.int 0, .null] tyX3 tyX3_ok i_X3 c_X0_9 n_X3 o_X3 rfl u_X3 (Nat.le_of_ble_eq_true rfl) (Nat.le_of_ble_eq_true rfl) dX0_init_20 (fun t1 H hI => ?_)
  refine lv_dup hx hb dX0_init_23 rfl ?_
  refine lv_bipush (v := 48) hx hb dX0_init_24 (by decide) ?_
  refine lv_bipush (v := 6) hx hb dX0_init_26 (by decide) ?_
  refine bw_callC S hK hZ hI (mX3_init l G cy g t1 288 48 6 (by decide) (by decide)) Y_X3_init rfl V_X3_init l_X0_11 ⟨(Nat.le_of_ble_eq_true rfl), (Nat.le_of_ble_eq_true rfl)⟩ (rs := (bw_tW cy t0 r0 84 14 (fun _ => 0) ++ ([(h, .inr (0, [.ref t0, .null, .null, .null, .null, .int 0, .int 0]))]))) (List.perm_append_comm) rfl hl.1 (rest := [.ref t1, .ref h]) rfl (Nat.le_of_ble_eq_true rfl) dX0_init_28 ⟨(Nat.le_of_ble_eq_true rfl), (Nat.le_of_ble_eq_true rfl)⟩ (fun r1 H locs _ hI => ?_)
  refine bw_putF S hK hI hini 4 1 (ws' := (bw_tW cy t1 r1 288 6 (fun _ => 0) ++ (bw_tW cy t0 r0 84 14 (fun _ => 0) ++ ([(h, .inr (0, [.ref t0, .ref t1, .null, .null, .null, .int 0, .int 0]))])))) tyX0 tyX0_ok nmX0 rfl rfl (by decide) i_X0 f_X0_20 rfl rfl rfl rfl rfl (Nat.le_of_ble_eq_true rfl) rfl dX0_init_31 (fun H locs hI => ?_)
  refine lv_aload_n hx hb dX0_init_34 rfl (lv_at hl 0 rfl) ?_
  refine bw_new S hK hI 3 [.int 0, .null] tyX3 tyX3_ok i_X3 c_X0_9 n_X3 o_X3 rfl u_X3 (Nat.le_of_ble_eq_true rfl) (Nat.le_of_ble_eq_true rfl) dX0_init_35 (fun t2 H hI => ?_)
  refine lv_dup hx hb dX0_init_38 rfl ?_
  refine lv_bipush (v := 30) hx hb dX0_init_39 (by decide) ?_
  refine lv_iconst (v := 3) hx hb dX0_init_41 rfl ?_
  refine bw_callC S hK hZ hI (mX3_init l G cy g t2 90 30 3 (by decide) (by decide)) Y_X3_init rfl V_X3_init l_X0_11 ⟨(Nat.le_of_ble_eq_true rfl), (Nat.le_of_ble_eq_true rfl)⟩ (rs := (bw_tW cy t1 r1 288 6 (fun _ => 0) ++ (bw_tW cy t0 r0 84 14 (fun _ => 0) ++ ([(h, .inr (0, [.ref t0, .ref t1, .null, .null, .null, .int 0, .int 0]))])))) (List.perm_append_comm) rfl hl.1 (rest := [.ref t2, .ref h]) rfl (Nat.le_of_ble_eq_true rfl) dX0_init_42 ⟨(Nat.le_of_ble_eq_true rfl), (Nat.le_of_ble_eq_true rfl)⟩ (fun r2 H locs _ hI => ?_)
  refine bw_putF S hK hI hini 6 2 (ws' := (bw_tW cy t2 r2 90 3 (fun _ => 0) ++ (bw_tW cy t1 r1 288 6 (fun _ => 0) ++ (bw_tW cy t0 r0 84 14 (fun _ => 0) ++ ([(h, .inr (0, [.ref t0, .ref t1, .ref t2, .null, .null, .int 0, .int 0]))]))))) tyX0 tyX0_ok nmX0 rfl rfl (by decide) i_X0 f_X0_23 rfl rfl rfl rfl rfl (Nat.le_of_ble_eq_true rfl) rfl dX0_init_45 (fun H locs hI => ?_)
  refine lv_aload_n hx hb dX0_init_48 rfl (lv_at hl 0 rfl) ?_
  refine bw_new S hK hI 3 [.int 0, .null] tyX3 tyX3_ok i_X3 c_X0_9 n_X3 o_X3 rfl u_X3 (Nat.le_of_ble_eq_true rfl) (Nat.le_of_ble_eq_true rfl) dX0_init_49 (fun t3 H hI => ?_)
  refine lv_dup hx hb dX0_init_52 rfl ?_
  refine lv_iconst (v := 1) hx hb dX0_init_53 rfl ?_
  refine bw_getsN S hZ hI hZ.2.2.2.2.2.2.2.2.1 dX0_init_54 ?_
  refine bw_slen hx hb hZ hI dX0_init_57 ?_
  refine bw_callC S hK hZ hI (mX3_init l G cy g t3 3 1 3 (by decide) (by decide)) Y_X3_init rfl V_X3_init l_X0_11 ⟨(Nat.le_of_ble_eq_true rfl), (Nat.le_of_ble_eq_true rfl)⟩ (rs := (bw_tW cy t2 r2 90 3 (fun _ => 0) ++ (bw_tW cy t1 r1 288 6 (fun _ => 0) ++ (bw_tW cy t0 r0 84 14 (fun _ => 0) ++ ([(h, .inr (0, [.ref t0, .ref t1, .ref t2, .null, .null, .int 0, .int 0]))]))))) (List.perm_append_comm) rfl hl.1 (rest := [.ref t3, .ref h]) rfl (Nat.le_of_ble_eq_true rfl) dX0_init_58 ⟨(Nat.le_of_ble_eq_true rfl), (Nat.le_of_ble_eq_true rfl)⟩ (fun r3 H locs _ hI => ?_)
  refine bw_putF S hK hI hini 8 3 (ws' := (bw_tW cy t3 r3 3 3 (fun _ => 0) ++ (bw_tW cy t2 r2 90 3 (fun _ => 0) ++ (bw_tW cy t1 r1 288 6 (fun _ => 0) ++ (bw_tW cy t0 r0 84 14 (fun _ => 0) ++ ([(h, .inr (0, [.ref t0, .ref t1, .ref t2, .ref t3, .null, .int 0, .int 0]))])))))) tyX0 tyX0_ok nmX0 rfl rfl (by decide) i_X0 f_X0_30 rfl rfl rfl rfl rfl (Nat.le_of_ble_eq_true rfl) rfl dX0_init_61 (fun H locs hI => ?_)
  refine lv_aload_n hx hb dX0_init_64 rfl (lv_at hl 0 rfl) ?_
  refine bw_new S hK hI 3 [.int 0, .null] tyX3 tyX3_ok i_X3 c_X0_9 n_X3 o_X3 rfl u_X3 (Nat.le_of_ble_eq_true rfl) (Nat.le_of_ble_eq_true rfl) dX0_init_65 (fun t4 H hI => ?_)
  refine lv_dup hx hb dX0_init_68 rfl ?_
  refine lv_bipush (v := 6) hx hb dX0_init_69 (by decide) ?_
  refine lv_iconst (v := 3) hx hb dX0_init_71 rfl ?_
  refine bw_callC S hK hZ hI (mX3_init l G cy g t4 18 6 3 (by decide) (by decide)) Y_X3_init rfl V_X3_init l_X0_11 ⟨(Nat.le_of_ble_eq_true rfl), (Nat.le_of_ble_eq_true rfl)⟩ (rs := (bw_tW cy t3 r3 3 3 (fun _ => 0) ++ (bw_tW cy t2 r2 90 3 (fun _ => 0) ++ (bw_tW cy t1 r1 288 6 (fun _ => 0) ++ (bw_tW cy t0 r0 84 14 (fun _ => 0) ++ ([(h, .inr (0, [.ref t0, .ref t1, .ref t2, .ref t3, .null, .int 0, .int 0]))])))))) (List.perm_append_comm) rfl hl.1 (rest := [.ref t4, .ref h]) rfl (Nat.le_of_ble_eq_true rfl) dX0_init_72 ⟨(Nat.le_of_ble_eq_true rfl), (Nat.le_of_ble_eq_true rfl)⟩ (fun r4 H locs _ hI => ?_)
  refine bw_putF S hK hI hini 10 4 (ws' := (bw_tW cy t4 r4 18 3 (fun _ => 0) ++ (bw_tW cy t3 r3 3 3 (fun _ => 0) ++ (bw_tW cy t2 r2 90 3 (fun _ => 0) ++ (bw_tW cy t1 r1 288 6 (fun _ => 0) ++ (bw_tW cy t0 r0 84 14 (fun _ => 0) ++ ([(h, .inr (0, [.ref t0, .ref t1, .ref t2, .ref t3, .ref t4, .int 0, .int 0]))]))))))) tyX0 tyX0_ok nmX0 rfl rfl (by decide) i_X0 f_X0_33 rfl rfl rfl rfl rfl (Nat.le_of_ble_eq_true rfl) rfl dX0_init_75 (fun H locs hI => ?_)
  have hI : bw_I G A s.heap (bw_dW cy (fun j => [h, t0, r0, t1, r1, t2, r2, t3, r3, t4, r4].getD j 0) (fun _ => 0) (fun _ => 0) (fun _ => 0) (fun _ => 0) (fun _ => 0) 0 0) H locs := bw_perm hI (bw_sel_perm [10,8,8,6,6,4,4,2,2,0,0] _)
  refine lv_aload_n hx hb dX0_init_78 rfl (lv_at hl 0 rfl) ?_
  refine bw_get S hK hI 0 3 rfl rfl (by decide) i_X0 f_X0_30 rfl dX0_init_79 ?_
  refine lv_iconst (v := 0) hx hb dX0_init_82 rfl ?_
  refine lv_iconst (v := 1) hx hb dX0_init_83 rfl ?_
  refine lv_bipush (v := 30) hx hb dX0_init_84 (by decide) ?_
  refine bw_callV S hK hZ hI (mX3_put l G cy g t3 r3 3 3 (fun _ => 0) 0 1 30 (upd (fun _ => 0) 1 30) bw_put1) Y_X3_put V_X3_put l_X0_36 ⟨(Nat.le_of_ble_eq_true rfl), (Nat.le_of_ble_eq_true rfl)⟩ (q0 := 0) rfl rfl rfl (ws' := (bw_dW cy (fun j => [h, t0, r0, t1, r1, t2, r2, t3, r3, t4, r4].getD j 0) (fun _ => 0) (fun _ => 0) (fun _ => 0) (upd (fun _ => 0) 1 30) (fun _ => 0) 0 0)) (bw_pd3 cy (fun j => [h, t0, r0, t1, r1, t2, r2, t3, r3, t4, r4].getD j 0) (fun _ => 0) (fun _ => 0) (fun _ => 0) (fun _ => 0) (fun _ => 0) 0 0) (bw_pd3 cy (fun j => [h, t0, r0, t1, r1, t2, r2, t3, r3, t4, r4].getD j 0) (fun _ => 0) (fun _ => 0) (fun _ => 0) (upd (fun _ => 0) 1 30) (fun _ => 0) 0 0).symm rfl rfl hl.1 (rest := []) (st1 := []) rfl rfl (Nat.le_of_ble_eq_true rfl) dX0_init_86 ⟨(Nat.le_of_ble_eq_true rfl), (Nat.le_of_ble_eq_true rfl)⟩ (fun H locs hI => ?_)
  refine lv_aload_n hx hb dX0_init_89 rfl (lv_at hl 0 rfl) ?_
  refine bw_get S hK hI 0 3 rfl rfl (by decide) i_X0 f_X0_30 rfl dX0_init_90 ?_
  refine lv_iconst (v := 0) hx hb dX0_init_93 rfl ?_
  refine lv_iconst (v := 2) hx hb dX0_init_94 rfl ?_
  refine lv_bipush (v := 50) hx hb dX0_init_95 (by decide) ?_
  refine bw_callV S hK hZ hI (mX3_put l G cy g t3 r3 3 3 (upd (fun _ => 0) 1 30) 0 2 50 (upd (upd (fun _ => 0) 1 30) 2 50) bw_put2) Y_X3_put V_X3_put l_X0_36 ⟨(Nat.le_of_ble_eq_true rfl), (Nat.le_of_ble_eq_true rfl)⟩ (q0 := 0) rfl rfl rfl (ws' := (bw_dW cy (fun j => [h, t0, r0, t1, r1, t2, r2, t3, r3, t4, r4].getD j 0) (fun _ => 0) (fun _ => 0) (fun _ => 0) (upd (upd (fun _ => 0) 1 30) 2 50) (fun _ => 0) 0 0)) (bw_pd3 cy (fun j => [h, t0, r0, t1, r1, t2, r2, t3, r3, t4, r4].getD j 0) (fun _ => 0) (fun _ => 0) (fun _ => 0) (upd (fun _ => 0) 1 30) (fun _ => 0) 0 0) (bw_pd3 cy (fun j => [h, t0, r0, t1, r1, t2, r2, t3, r3, t4, r4].getD j 0) (fun _ => 0) (fun _ => 0) (fun _ => 0) (upd (upd (fun _ => 0) 1 30) 2 50) (fun _ => 0) 0 0).symm rfl rfl hl.1 (rest := []) (st1 := []) rfl rfl (Nat.le_of_ble_eq_true rfl) dX0_init_97 ⟨(Nat.le_of_ble_eq_true rfl), (Nat.le_of_ble_eq_true rfl)⟩ (fun H locs hI => ?_)
  exact bw_cret (ok := fun a => a 0 = h) (wf := fun a => bw_dD cy a bw_d0) S hr hlocks (fun j => [h, t0, r0, t1, r1, t2, r2, t3, r3, t4, r4].getD j 0) rfl hI (Nat.le_of_ble_eq_true rfl) (Nat.le_of_ble_eq_true rfl) dX0_init_100 hQ
set_option maxRecDepth 100000 in
theorem c_X4_15 : (Jvm.Cond.classLink "BufferLoans$Text" (15 : Nat) "BufferLoans$Reader") ∈ bw_L := bw_memT 101 rfl rfl
set_option maxHeartbeats 4000000 in
set_option maxRecDepth 100000 in
theorem mX4_init (l : Launch) (G : va_G) (cy : Nat → ClassId) (g : Nat) (h : Nat) : bw_MC (α := (Nat × Nat)) l yX4_init cX4_init 1 2 32 2 63 G cy g [.ref h] [(h, .inr (4, [.null, .null, .int 0]))] (fun _ => True) (fun a => bw_xT cy h a.1 a.2 (fun _ => 0) 0 0 0 0) := by
  refine bw_ofWC (by decide +kernel) RX4 rfl rfl (Nat.le_of_ble_eq_true rfl) ?_
  intro p e s m below meth c ls S hr hlocks hini hK hZ hI hl
  have hx := S.1
  have hb := S.2.1
  have hts := S.2.2.2.2
  generalize va_A _ s.heap.size = A at hI hZ ⊢
  generalize hQ : MQ below _ _ s 2 63 A = Q
  have hl : lv_has ls 1 [(0, .ref h)] := hl
  refine lv_aload_n hx hb dX4_init_0 rfl (lv_at hl 0 rfl) ?_
  refine bw_obj S hl.1 (rest := []) l_X4_3 l_JO_i l_JO_c dX4_init_1 (Nat.le_of_ble_eq_true rfl) (Nat.le_of_ble_eq_true rfl) ?_
  refine lv_aload_n hx hb dX4_init_4 rfl (lv_at hl 0 rfl) ?_
  refine lv_bipush (v := 60) hx hb dX4_init_5 (by decide) ?_
  refine bw_newi S hK hI l_JA_i 60 (by decide) rfl (by decide) (Nat.le_of_ble_eq_true rfl) (Nat.le_of_ble_eq_true rfl) dX4_init_7 (fun q H hI => ?_)
  refine bw_putF S hK hI hini 0 0 (ws' := [(h, .inr (4, [.ref q, .null, .int 0])), (q, .inl (cy 0, 60, .inl (fun _ => 0)))]) tyX4 tyX4_ok nmX4 rfl rfl (by decide) i_X4 f_X4_9 rfl rfl rfl rfl rfl (Nat.le_of_ble_eq_true rfl) rfl dX4_init_9 (fun H locs hI => ?_)
  refine lv_aload_n hx hb dX4_init_12 rfl (lv_at hl 0 rfl) ?_
  refine bw_new S hK hI 2 [.int 0, .int 0, .int 0] tyX2 tyX2_ok i_X2 c_X4_15 n_X2 o_X2 rfl u_X2 (Nat.le_of_ble_eq_true rfl) (Nat.le_of_ble_eq_true rfl) dX4_init_13 (fun r H hI => ?_)
  refine lv_dup hx hb dX4_init_16 rfl ?_
  refine bw_callCN S hK hZ hI (mX2_init l G cy g r) Y_X2_init rfl V_X2_init hZ.2.2.2.2.2.2.2.2.2.2.1 ⟨(Nat.le_of_ble_eq_true rfl), (Nat.le_of_ble_eq_true rfl)⟩ (rs := [(h, .inr (4, [.ref q, .null, .int 0])), (q, .inl (cy 0, 60, .inl (fun _ => 0)))]) (bw_sel_perm [2] _) rfl hl.1 (rest := [.ref r, .ref h]) rfl (Nat.le_of_ble_eq_true rfl) dX4_init_17 ⟨(Nat.le_of_ble_eq_true rfl), (Nat.le_of_ble_eq_true rfl)⟩ (fun _ H locs _ hI => ?_)
  refine bw_putF S hK hI hini 1 1 (ws' := [(r, .inr (2, [.int 0, .int 0, .int 0])), (h, .inr (4, [.ref q, .ref r, .int 0])), (q, .inl (cy 0, 60, .inl (fun _ => 0)))]) tyX4 tyX4_ok nmX4 rfl rfl (by decide) i_X4 f_X4_18 rfl rfl rfl rfl rfl (Nat.le_of_ble_eq_true rfl) rfl dX4_init_20 (fun H locs hI => ?_)
  exact bw_cret (ok := fun _ => True) (wf := fun a : Nat × Nat => bw_xT cy h a.1 a.2 (fun _ => 0) 0 0 0 0) S hr hlocks (q, r) trivial (bw_perm hI (bw_sel_perm [1, 1, 0] _)) (Nat.le_of_ble_eq_true rfl) (Nat.le_of_ble_eq_true rfl) dX4_init_23 hQ
set_option maxHeartbeats 4000000 in
set_option maxRecDepth 100000 in
theorem mX6_init (l : Launch) (G : va_G) (cy : Nat → ClassId) (g : Nat) (h : Nat) : bw_MC (α := (Nat → Nat)) l yX6_init cX6_init 1 1 12 6 3728 G cy g [.ref h] [(h, .inr (6, [.null, .null, .null, .int 0, .null, .int 0, .int 0, .null, .int 0, .int 0, .int 0, .int 0, .int 0, .int 0, .int 0, .null, .long 0]))] (fun a => a 0 = h) (fun a => bw_mW cy a (upd (upd (fun _ => 0) 4 30) 5 50) (fun _ => 0) (fun _ => 0) 0 (fun _ => 0) 0 0 (fun _ => 0) 0 0 0 0 0 0 0 (fun _ => 0) 0) := by
  refine bw_ofWC (by decide +kernel) RX6 rfl rfl (Nat.le_of_ble_eq_true rfl) ?_
  intro p e s m below meth c ls S hr hlocks hini hK hZ hI hl
  have hx := S.1
  have hb := S.2.1
  have hts := S.2.2.2.2
  generalize va_A _ s.heap.size = A at hI hZ ⊢
  generalize hQ : MQ below _ _ s 6 3728 A = Q
  have hl : lv_has ls 1 [(0, .ref h)] := hl
  refine lv_aload_n hx hb dX6_init_0 rfl (lv_at hl 0 rfl) ?_
  refine bw_obj S hl.1 (rest := []) l_X6_1 l_JO_i l_JO_c dX6_init_1 (Nat.le_of_ble_eq_true rfl) (Nat.le_of_ble_eq_true rfl) ?_
  refine lv_aload_n hx hb dX6_init_4 rfl (lv_at hl 0 rfl) ?_
  refine lv_sipush (v := 444) hx hb dX6_init_5 (by decide) ?_
  refine bw_newi S hK hI l_JA_i 444 (by decide) rfl (by decide) (Nat.le_of_ble_eq_true rfl) (Nat.le_of_ble_eq_true rfl) dX6_init_8 (fun q0 H hI => ?_)
  refine bw_putF S hK hI hini 0 0 (ws' := [(h, .inr (6, [.ref q0, .null, .null, .int 0, .null, .int 0, .int 0, .null, .int 0, .int 0, .int 0, .int 0, .int 0, .int 0, .int 0, .null, .long 0])), (q0, .inl (cy 0, 444, .inl (fun _ => 0)))]) tyX6 tyX6_ok nmX6 rfl rfl (by decide) i_X6 f_X6_7 rfl rfl rfl rfl rfl (Nat.le_of_ble_eq_true rfl) rfl dX6_init_10 (fun H locs hI => ?_)
  refine lv_aload_n hx hb dX6_init_13 rfl (lv_at hl 0 rfl) ?_
  refine lv_sipush (v := 2664) hx hb dX6_init_14 (by decide) ?_
  refine bw_newi S hK hI l_JA_i 2664 (by decide) rfl (by decide) (Nat.le_of_ble_eq_true rfl) (Nat.le_of_ble_eq_true rfl) dX6_init_17 (fun q1 H hI => ?_)
  refine bw_putF S hK hI hini 0 1 (ws' := [(h, .inr (6, [.ref q0, .ref q1, .null, .int 0, .null, .int 0, .int 0, .null, .int 0, .int 0, .int 0, .int 0, .int 0, .int 0, .int 0, .null, .long 0])), (q0, .inl (cy 0, 444, .inl (fun _ => 0))), (q1, .inl (cy 0, 2664, .inl (fun _ => 0)))]) tyX6 tyX6_ok nmX6 rfl rfl (by decide) i_X6 f_X6_13 rfl rfl rfl rfl rfl (Nat.le_of_ble_eq_true rfl) rfl dX6_init_19 (fun H locs hI => ?_)
  refine lv_aload_n hx hb dX6_init_22 rfl (lv_at hl 0 rfl) ?_
  refine lv_sipush (v := 444) hx hb dX6_init_23 (by decide) ?_
  refine bw_newi S hK hI l_JA_i 444 (by decide) rfl (by decide) (Nat.le_of_ble_eq_true rfl) (Nat.le_of_ble_eq_true rfl) dX6_init_26 (fun q2 H hI => ?_)
  refine bw_putF S hK hI hini 0 2 (ws' := [(h, .inr (6, [.ref q0, .ref q1, .ref q2, .int 0, .null, .int 0, .int 0, .null, .int 0, .int 0, .int 0, .int 0, .int 0, .int 0, .int 0, .null, .long 0])), (q0, .inl (cy 0, 444, .inl (fun _ => 0))), (q1, .inl (cy 0, 2664, .inl (fun _ => 0))), (q2, .inl (cy 0, 444, .inl (fun _ => 0)))]) tyX6 tyX6_ok nmX6 rfl rfl (by decide) i_X6 f_X6_16 rfl rfl rfl rfl rfl (Nat.le_of_ble_eq_true rfl) rfl dX6_init_28 (fun H locs hI => ?_)
  refine lv_aload_n hx hb dX6_init_31 rfl (lv_at hl 0 rfl) ?_
  refine lv_bipush (v := 60) hx hb dX6_init_32 (by decide) ?_
  refine bw_newi S hK hI l_JA_i 60 (by decide) rfl (by decide) (Nat.le_of_ble_eq_true rfl) (Nat.le_of_ble_eq_true rfl) dX6_init_34 (fun q3 H hI => ?_)
  refine bw_putF S hK hI hini 0 4 (ws' := [(h, .inr (6, [.ref q0, .ref q1, .ref q2, .int 0, .ref q3, .int 0, .int 0, .null, .int 0, .int 0, .int 0, .int 0, .int 0, .int 0, .int 0, .null, .long 0])), (q0, .inl (cy 0, 444, .inl (fun _ => 0))), (q1, .inl (cy 0, 2664, .inl (fun _ => 0))), (q2, .inl (cy 0, 444, .inl (fun _ => 0))), (q3, .inl (cy 0, 60, .inl (fun _ => 0)))]) tyX6 tyX6_ok nmX6 rfl rfl (by decide) i_X6 f_X6_19 rfl rfl rfl rfl rfl (Nat.le_of_ble_eq_true rfl) rfl dX6_init_36 (fun H locs hI => ?_)
  refine lv_aload_n hx hb dX6_init_39 rfl (lv_at hl 0 rfl) ?_
  refine lv_bipush (v := 6) hx hb dX6_init_40 (by decide) ?_
  refine bw_newi S hK hI l_JA_i 6 (by decide) rfl (by decide) (Nat.le_of_ble_eq_true rfl) (Nat.le_of_ble_eq_true rfl) dX6_init_42 (fun q4 H hI => ?_)
  refine bw_putF S hK hI hini 0 7 (ws' := [(h, .inr (6, [.ref q0, .ref q1, .ref q2, .int 0, .ref q3, .int 0, .int 0, .ref q4, .int 0, .int 0, .int 0, .int 0, .int 0, .int 0, .int 0, .null, .long 0])), (q0, .inl (cy 0, 444, .inl (fun _ => 0))), (q1, .inl (cy 0, 2664, .inl (fun _ => 0))), (q2, .inl (cy 0, 444, .inl (fun _ => 0))), (q3, .inl (cy 0, 60, .inl (fun _ => 0))), (q4, .inl (cy 0, 6, .inl (fun _ => 0)))]) tyX6 tyX6_ok nmX6 rfl rfl (by decide) i_X6 f_X6_22 rfl rfl rfl rfl rfl (Nat.le_of_ble_eq_true rfl) rfl dX6_init_44 (fun H locs hI => ?_)
  refine lv_aload_n hx hb dX6_init_47 rfl (lv_at hl 0 rfl) ?_
  refine lv_bipush (v := 110) hx hb dX6_init_48 (by decide) ?_
  refine bw_newi S hK hI l_JA_i 110 (by decide) rfl (by decide) (Nat.le_of_ble_eq_true rfl) (Nat.le_of_ble_eq_true rfl) dX6_init_50 (fun q5 H hI => ?_)
  refine bw_putF S hK hI hini 0 15 (ws' := [(h, .inr (6, [.ref q0, .ref q1, .ref q2, .int 0, .ref q3, .int 0, .int 0, .ref q4, .int 0, .int 0, .int 0, .int 0, .int 0, .int 0, .int 0, .ref q5, .long 0])), (q0, .inl (cy 0, 444, .inl (fun _ => 0))), (q1, .inl (cy 0, 2664, .inl (fun _ => 0))), (q2, .inl (cy 0, 444, .inl (fun _ => 0))), (q3, .inl (cy 0, 60, .inl (fun _ => 0))), (q4, .inl (cy 0, 6, .inl (fun _ => 0))), (q5, .inl (cy 0, 110, .inl (fun _ => 0)))]) tyX6 tyX6_ok nmX6 rfl rfl (by decide) i_X6 f_X6_25 rfl rfl rfl rfl rfl (Nat.le_of_ble_eq_true rfl) rfl dX6_init_52 (fun H locs hI => ?_)
  refine lv_aload_n hx hb dX6_init_55 rfl (lv_at hl 0 rfl) ?_
  refine bw_get S hK hI 0 0 rfl rfl (by decide) i_X6 f_X6_7 rfl dX6_init_56 ?_
  refine lv_iconst (v := 4) hx hb dX6_init_59 rfl ?_
  refine lv_bipush (v := 30) hx hb dX6_init_60 (by decide) ?_
  refine bw_iast hx hb hK hI 1 (n := 444) (f := (fun _ => 0)) (f' := (upd (fun _ => 0) 4 30)) (ws' := [(h, .inr (6, [.ref q0, .ref q1, .ref q2, .int 0, .ref q3, .int 0, .int 0, .ref q4, .int 0, .int 0, .int 0, .int 0, .int 0, .int 0, .int 0, .ref q5, .long 0])), (q0, .inl (cy 0, 444, .inl (upd (fun _ => 0) 4 30))), (q1, .inl (cy 0, 2664, .inl (fun _ => 0))), (q2, .inl (cy 0, 444, .inl (fun _ => 0))), (q3, .inl (cy 0, 60, .inl (fun _ => 0))), (q4, .inl (cy 0, 6, .inl (fun _ => 0))), (q5, .inl (cy 0, 110, .inl (fun _ => 0)))]) rfl rfl rfl dX6_init_62 (fun H locs hI => ?_)
  refine lv_aload_n hx hb dX6_init_63 rfl (lv_at hl 0 rfl) ?_
  refine bw_get S hK hI 0 0 rfl rfl (by decide) i_X6 f_X6_7 rfl dX6_init_64 ?_
  refine lv_iconst (v := 5) hx hb dX6_init_67 rfl ?_
  refine lv_bipush (v := 50) hx hb dX6_init_68 (by decide) ?_
  refine bw_iast hx hb hK hI 1 (n := 444) (f := (upd (fun _ => 0) 4 30)) (f' := (upd (upd (fun _ => 0) 4 30) 5 50)) (ws' := [(h, .inr (6, [.ref q0, .ref q1, .ref q2, .int 0, .ref q3, .int 0, .int 0, .ref q4, .int 0, .int 0, .int 0, .int 0, .int 0, .int 0, .int 0, .ref q5, .long 0])), (q0, .inl (cy 0, 444, .inl (upd (upd (fun _ => 0) 4 30) 5 50))), (q1, .inl (cy 0, 2664, .inl (fun _ => 0))), (q2, .inl (cy 0, 444, .inl (fun _ => 0))), (q3, .inl (cy 0, 60, .inl (fun _ => 0))), (q4, .inl (cy 0, 6, .inl (fun _ => 0))), (q5, .inl (cy 0, 110, .inl (fun _ => 0)))]) rfl rfl rfl dX6_init_70 (fun H locs hI => ?_)
  exact bw_cret (ok := fun a => a 0 = h) (wf := fun a => bw_mW cy a (upd (upd (fun _ => 0) 4 30) 5 50) (fun _ => 0) (fun _ => 0) 0 (fun _ => 0) 0 0 (fun _ => 0) 0 0 0 0 0 0 0 (fun _ => 0) 0) S hr hlocks (fun j => [h, q0, q1, q2, q3, q4, q5].getD j 0) rfl hI (Nat.le_of_ble_eq_true rfl) (Nat.le_of_ble_eq_true rfl) dX6_init_71 hQ
theorem bw_recell {G : va_G} {A : Nat → Prop} {H0 H : Heap} {ws ws' : va_W} {locs : List Loc} (q0 : Nat) {a : Nat} {e e' : va_E} (hI : bw_I G A H0 ws H locs) (he : ws[q0]? = some (a, e)) (hee : va_at G vwCl (a, e) H → va_at G vwCl (a, e') H) (hw : ws.set q0 (a, e') = ws') : bw_I G A H0 ws' H locs := by
  subst hw
  obtain ⟨hP, hD, hS, hA⟩ := hI
  refine ⟨fun k q hk => ?_, hD.set he, hS, hA⟩
  by_cases hkq : k = q0
  · subst hkq
    have hl := (List.getElem?_eq_some_iff.mp he).1
    rw [List.getElem?_set_self hl] at hk
    cases hk
    exact hee (hP k _ he)
  · rw [List.getElem?_set_ne (Ne.symm hkq)] at hk
    exact hP k q hk
theorem bw_refs {G : va_G} {a n : Nat} {cA : ClassId} {f f' : Nat → Option Nat} {H : Heap} (h : ∀ j, j < n → f j = f' j) (ha : va_at G vwCl (a, .inl (cA, n, .inr (.inr (.inr (.inr f))))) H) : va_at G vwCl (a, .inl (cA, n, .inr (.inr (.inr (.inr f'))))) H := by
  have e : vp_cell cA (n, .inr (.inr (.inr (.inr f)))) = vp_cell cA (n, .inr (.inr (.inr (.inr f')))) := by
    show arrV cA n (fun j => va_rf (f j)) = arrV cA n (fun j => va_rf (f' j))
    unfold arrV
    congr 2
    funext j
    show va_rf (f j.val) = va_rf (f' j.val)
    rw [h j.val j.isLt]
  exact Eq.trans ha (congrArg some e)
set_option maxRecDepth 100000 in
theorem c_X1_9 : (Jvm.Cond.classLink "BufferLoans$History" (9 : Nat) "BufferLoans$Desk") ∈ bw_L := bw_memT 82 rfl rfl
set_option maxRecDepth 100000 in
theorem l_X1_17 : (Jvm.Cond.methodLink "BufferLoans$History" (17 : Nat) ({ cls := "BufferLoans$Desk", name := "<init>", desc := "()V" } : Jvm.MethodName)) ∈ bw_L := bw_memT 84 rfl rfl
theorem bw_rev6 (a b c d e f o : va_W) : (a ++ (b ++ (c ++ (d ++ (e ++ (f ++ o)))))).Perm (o ++ (f ++ (e ++ (d ++ (c ++ (b ++ (a ++ []))))))) := by
  have h6 : (a ++ (b ++ (c ++ (d ++ (e ++ (f ++ o)))))).Perm (o ++ (a ++ (b ++ (c ++ (d ++ (e ++ (f ++ []))))))) := by
    have := bw_mv6 a b c d e f o []
    rwa [List.append_nil] at this
  refine h6.trans (List.Perm.append_left o ?_)
  refine (bw_mv5 a b c d e f []).trans (List.Perm.append_left f ?_)
  refine (bw_mv4 a b c d e []).trans (List.Perm.append_left e ?_)
  refine (bw_mv3 a b c d []).trans (List.Perm.append_left d ?_)
  refine (bw_mv2 a b c []).trans (List.Perm.append_left c ?_)
  exact bw_mv1 a b []
set_option maxHeartbeats 4000000 in
set_option maxRecDepth 100000 in
theorem mX1_init (l : Launch) (G : va_G) (cy : Nat → ClassId) (g : Nat) (h : Nat) : bw_MC (α := (Nat → Nat → Nat)) l yX1_init cX1_init 2 3 63 67 3006 G cy g [.ref h] [(h, .inr (1, [.null, .int 0, .int 0]))] (fun b => b 8 0 = h) (fun b => bw_hW cy b (fun _ => bw_d0) 0 0) := by
  refine bw_ofWC (by decide +kernel) RX1 rfl rfl (Nat.le_of_ble_eq_true rfl) ?_
  intro p e s m below meth c ls S hr hlocks hini hK hZ hI hl
  have hx := S.1
  have hb := S.2.1
  have hts := S.2.2.2.2
  generalize va_A _ s.heap.size = A at hI hZ ⊢
  generalize hQ : MQ below _ _ s 67 3006 A = Q
  have hl : lv_has ls 2 [(0, .ref h)] := hl
  refine lv_aload_n hx hb dX1_init_0 rfl (lv_at hl 0 rfl) ?_
  refine bw_obj S hl.1 (rest := []) l_X1_3 l_JO_i l_JO_c dX1_init_1 (Nat.le_of_ble_eq_true rfl) (Nat.le_of_ble_eq_true rfl) ?_
  refine lv_aload_n hx hb dX1_init_4 rfl (lv_at hl 0 rfl) ?_
  refine lv_bipush (v := 6) hx hb dX1_init_5 (by decide) ?_
  refine bw_newq S hK hI c_X1_9 hZ.2.2.2.2.2.2.2.2.2.2.2 6 (by decide) rfl (by decide) (Nat.le_of_ble_eq_true rfl) (Nat.le_of_ble_eq_true rfl) dX1_init_7 (fun q H hI => ?_)
  refine bw_putF S hK hI hini 0 0 (ws' := ([(h, .inr (1, [.ref q, .int 0, .int 0])), (q, .inl (cy 2, 6, .inr (.inr (.inr (.inr (fun _ => none))))))])) tyX1 tyX1_ok nmX1 rfl rfl (by decide) i_X1 f_X1_11 rfl rfl rfl rfl rfl (Nat.le_of_ble_eq_true rfl) rfl dX1_init_10 (fun H locs hI => ?_)
  refine lv_iconst (v := 0) hx hb dX1_init_13 rfl ?_
  refine lv_istore_n (lv' := [(1, .int 0), (0, .ref h)]) hx hb dX1_init_14 rfl hl (by decide) rfl (fun ls hl => ?_)
  refine lv_iload_n hx hb dX1_init_15 rfl (lv_at hl 0 rfl) ?_
  refine lv_aload_n hx hb dX1_init_16 rfl (lv_at hl 1 rfl) ?_
  refine bw_get S hK hI 0 0 rfl rfl (by decide) i_X1 f_X1_11 rfl dX1_init_17 ?_
  refine va_alen hx hb hK hI.1 1 2 (v := 6) rfl (ty := .object "BufferLoans$Desk") rfl rfl dX1_init_20 ?_
  refine lv_icmp_ge (tgt := 43) hx hb dX1_init_21 (by decide) (fun h9 => absurd h9 (by decide)) (fun _ => ?_)
  refine lv_aload_n hx hb dX1_init_24 rfl (lv_at hl 1 rfl) ?_
  refine bw_get S hK hI 0 0 rfl rfl (by decide) i_X1 f_X1_11 rfl dX1_init_25 ?_
  refine lv_iload_n hx hb dX1_init_28 rfl (lv_at hl 0 rfl) ?_
  refine bw_new S hK hI 0 [.null, .null, .null, .null, .null, .int 0, .int 0] tyX0 tyX0_ok i_X0 c_X1_9 n_X0 o_X0 rfl u_X0 (Nat.le_of_ble_eq_true rfl) (Nat.le_of_ble_eq_true rfl) dX1_init_29 (fun d H hI => ?_)
  refine lv_dup hx hb dX1_init_32 rfl ?_
  refine bw_callC S hK hZ hI (mX0_init l G cy g d) Y_X0_init rfl V_X0_init l_X1_17 ⟨(Nat.le_of_ble_eq_true rfl), (Nat.le_of_ble_eq_true rfl)⟩ (rs := ([(h, .inr (1, [.ref q, .int 0, .int 0])), (q, .inl (cy 2, 6, .inr (.inr (.inr (.inr (fun _ => none))))))])) (List.perm_append_comm) rfl hl.1 (rest := [.ref d, .int 0, .ref q]) rfl (Nat.le_of_ble_eq_true rfl) dX1_init_33 ⟨(Nat.le_of_ble_eq_true rfl), (Nat.le_of_ble_eq_true rfl)⟩ (fun a0 H locs hok hI => ?_)
  rw [← hok]
  clear hok
  refine bw_astq hx hb hK hI 12 0 (ws' := (bw_dD cy a0 bw_d0 ++ ([(h, .inr (1, [.ref q, .int 0, .int 0])), (q, .inl (cy 2, 6, .inr (.inr (.inr (.inr (va_up (fun _ => none) 0 (some (a0 0))))))))]))) rfl rfl (show vp_in 0 6 from by unfold vp_in; decide) rfl dX1_init_36 (fun H locs hI => ?_)
  refine lv_iinc (v := 1) (lv' := [(1, .int 1), (0, .ref h)]) hx hb dX1_init_37 hl (k := 0) rfl rfl (by decide) rfl (fun ls hl => ?_)
  refine lv_goto (tgt := 15) hx hb dX1_init_40 (by decide) ?_
  refine lv_iload_n hx hb dX1_init_15 rfl (lv_at hl 0 rfl) ?_
  refine lv_aload_n hx hb dX1_init_16 rfl (lv_at hl 1 rfl) ?_
  refine bw_get S hK hI 11 0 rfl rfl (by decide) i_X1 f_X1_11 rfl dX1_init_17 ?_
  refine va_alen hx hb hK hI.1 12 2 (v := 6) rfl (ty := .object "BufferLoans$Desk") rfl rfl dX1_init_20 ?_
  refine lv_icmp_ge (tgt := 43) hx hb dX1_init_21 (by decide) (fun h9 => absurd h9 (by decide)) (fun _ => ?_)
  refine lv_aload_n hx hb dX1_init_24 rfl (lv_at hl 1 rfl) ?_
  refine bw_get S hK hI 11 0 rfl rfl (by decide) i_X1 f_X1_11 rfl dX1_init_25 ?_
  refine lv_iload_n hx hb dX1_init_28 rfl (lv_at hl 0 rfl) ?_
  refine bw_new S hK hI 0 [.null, .null, .null, .null, .null, .int 0, .int 0] tyX0 tyX0_ok i_X0 c_X1_9 n_X0 o_X0 rfl u_X0 (Nat.le_of_ble_eq_true rfl) (Nat.le_of_ble_eq_true rfl) dX1_init_29 (fun d H hI => ?_)
  refine lv_dup hx hb dX1_init_32 rfl ?_
  refine bw_callC S hK hZ hI (mX0_init l G cy g d) Y_X0_init rfl V_X0_init l_X1_17 ⟨(Nat.le_of_ble_eq_true rfl), (Nat.le_of_ble_eq_true rfl)⟩ (rs := (bw_dD cy a0 bw_d0 ++ ([(h, .inr (1, [.ref q, .int 0, .int 0])), (q, .inl (cy 2, 6, .inr (.inr (.inr (.inr (va_up (fun _ => none) 0 (some (a0 0))))))))]))) (List.perm_append_comm) rfl hl.1 (rest := [.ref d, .int 1, .ref q]) rfl (Nat.le_of_ble_eq_true rfl) dX1_init_33 ⟨(Nat.le_of_ble_eq_true rfl), (Nat.le_of_ble_eq_true rfl)⟩ (fun a1 H locs hok hI => ?_)
  rw [← hok]
  clear hok
  refine bw_astq hx hb hK hI 23 0 (ws' := (bw_dD cy a1 bw_d0 ++ (bw_dD cy a0 bw_d0 ++ ([(h, .inr (1, [.ref q, .int 0, .int 0])), (q, .inl (cy 2, 6, .inr (.inr (.inr (.inr (va_up (va_up (fun _ => none) 0 (some (a0 0))) 1 (some (a1 0))))))))])))) rfl rfl (show vp_in 1 6 from by unfold vp_in; decide) rfl dX1_init_36 (fun H locs hI => ?_)
  refine lv_iinc (v := 2) (lv' := [(1, .int 2), (0, .ref h)]) hx hb dX1_init_37 hl (k := 0) rfl rfl (by decide) rfl (fun ls hl => ?_)
  refine lv_goto (tgt := 15) hx hb dX1_init_40 (by decide) ?_
  refine lv_iload_n hx hb dX1_init_15 rfl (lv_at hl 0 rfl) ?_
  refine lv_aload_n hx hb dX1_init_16 rfl (lv_at hl 1 rfl) ?_
  refine bw_get S hK hI 22 0 rfl rfl (by decide) i_X1 f_X1_11 rfl dX1_init_17 ?_
  refine va_alen hx hb hK hI.1 23 2 (v := 6) rfl (ty := .object "BufferLoans$Desk") rfl rfl dX1_init_20 ?_
  refine lv_icmp_ge (tgt := 43) hx hb dX1_init_21 (by decide) (fun h9 => absurd h9 (by decide)) (fun _ => ?_)
  refine lv_aload_n hx hb dX1_init_24 rfl (lv_at hl 1 rfl) ?_
  refine bw_get S hK hI 22 0 rfl rfl (by decide) i_X1 f_X1_11 rfl dX1_init_25 ?_
  refine lv_iload_n hx hb dX1_init_28 rfl (lv_at hl 0 rfl) ?_
  refine bw_new S hK hI 0 [.null, .null, .null, .null, .null, .int 0, .int 0] tyX0 tyX0_ok i_X0 c_X1_9 n_X0 o_X0 rfl u_X0 (Nat.le_of_ble_eq_true rfl) (Nat.le_of_ble_eq_true rfl) dX1_init_29 (fun d H hI => ?_)
  refine lv_dup hx hb dX1_init_32 rfl ?_
  refine bw_callC S hK hZ hI (mX0_init l G cy g d) Y_X0_init rfl V_X0_init l_X1_17 ⟨(Nat.le_of_ble_eq_true rfl), (Nat.le_of_ble_eq_true rfl)⟩ (rs := (bw_dD cy a1 bw_d0 ++ (bw_dD cy a0 bw_d0 ++ ([(h, .inr (1, [.ref q, .int 0, .int 0])), (q, .inl (cy 2, 6, .inr (.inr (.inr (.inr (va_up (va_up (fun _ => none) 0 (some (a0 0))) 1 (some (a1 0))))))))])))) (List.perm_append_comm) rfl hl.1 (rest := [.ref d, .int 2, .ref q]) rfl (Nat.le_of_ble_eq_true rfl) dX1_init_33 ⟨(Nat.le_of_ble_eq_true rfl), (Nat.le_of_ble_eq_true rfl)⟩ (fun a2 H locs hok hI => ?_)
  rw [← hok]
  clear hok
  refine bw_astq hx hb hK hI 34 0 (ws' := (bw_dD cy a2 bw_d0 ++ (bw_dD cy a1 bw_d0 ++ (bw_dD cy a0 bw_d0 ++ ([(h, .inr (1, [.ref q, .int 0, .int 0])), (q, .inl (cy 2, 6, .inr (.inr (.inr (.inr (va_up (va_up (va_up (fun _ => none) 0 (some (a0 0))) 1 (some (a1 0))) 2 (some (a2 0))))))))]))))) rfl rfl (show vp_in 2 6 from by unfold vp_in; decide) rfl dX1_init_36 (fun H locs hI => ?_)
  refine lv_iinc (v := 3) (lv' := [(1, .int 3), (0, .ref h)]) hx hb dX1_init_37 hl (k := 0) rfl rfl (by decide) rfl (fun ls hl => ?_)
  refine lv_goto (tgt := 15) hx hb dX1_init_40 (by decide) ?_
  refine lv_iload_n hx hb dX1_init_15 rfl (lv_at hl 0 rfl) ?_
  refine lv_aload_n hx hb dX1_init_16 rfl (lv_at hl 1 rfl) ?_
  refine bw_get S hK hI 33 0 rfl rfl (by decide) i_X1 f_X1_11 rfl dX1_init_17 ?_
  refine va_alen hx hb hK hI.1 34 2 (v := 6) rfl (ty := .object "BufferLoans$Desk") rfl rfl dX1_init_20 ?_
  refine lv_icmp_ge (tgt := 43) hx hb dX1_init_21 (by decide) (fun h9 => absurd h9 (by decide)) (fun _ => ?_)
  refine lv_aload_n hx hb dX1_init_24 rfl (lv_at hl 1 rfl) ?_
  refine bw_get S hK hI 33 0 rfl rfl (by decide) i_X1 f_X1_11 rfl dX1_init_25 ?_
  refine lv_iload_n hx hb dX1_init_28 rfl (lv_at hl 0 rfl) ?_
  refine bw_new S hK hI 0 [.null, .null, .null, .null, .null, .int 0, .int 0] tyX0 tyX0_ok i_X0 c_X1_9 n_X0 o_X0 rfl u_X0 (Nat.le_of_ble_eq_true rfl) (Nat.le_of_ble_eq_true rfl) dX1_init_29 (fun d H hI => ?_)
  refine lv_dup hx hb dX1_init_32 rfl ?_
  refine bw_callC S hK hZ hI (mX0_init l G cy g d) Y_X0_init rfl V_X0_init l_X1_17 ⟨(Nat.le_of_ble_eq_true rfl), (Nat.le_of_ble_eq_true rfl)⟩ (rs := (bw_dD cy a2 bw_d0 ++ (bw_dD cy a1 bw_d0 ++ (bw_dD cy a0 bw_d0 ++ ([(h, .inr (1, [.ref q, .int 0, .int 0])), (q, .inl (cy 2, 6, .inr (.inr (.inr (.inr (va_up (va_up (va_up (fun _ => none) 0 (some (a0 0))) 1 (some (a1 0))) 2 (some (a2 0))))))))]))))) (List.perm_append_comm) rfl hl.1 (rest := [.ref d, .int 3, .ref q]) rfl (Nat.le_of_ble_eq_true rfl) dX1_init_33 ⟨(Nat.le_of_ble_eq_true rfl), (Nat.le_of_ble_eq_true rfl)⟩ (fun a3 H locs hok hI => ?_)
  rw [← hok]
  clear hok
  refine bw_astq hx hb hK hI 45 0 (ws' := (bw_dD cy a3 bw_d0 ++ (bw_dD cy a2 bw_d0 ++ (bw_dD cy a1 bw_d0 ++ (bw_dD cy a0 bw_d0 ++ ([(h, .inr (1, [.ref q, .int 0, .int 0])), (q, .inl (cy 2, 6, .inr (.inr (.inr (.inr (va_up (va_up (va_up (va_up (fun _ => none) 0 (some (a0 0))) 1 (some (a1 0))) 2 (some (a2 0))) 3 (some (a3 0))))))))])))))) rfl rfl (show vp_in 3 6 from by unfold vp_in; decide) rfl dX1_init_36 (fun H locs hI => ?_)
  refine lv_iinc (v := 4) (lv' := [(1, .int 4), (0, .ref h)]) hx hb dX1_init_37 hl (k := 0) rfl rfl (by decide) rfl (fun ls hl => ?_)
  refine lv_goto (tgt := 15) hx hb dX1_init_40 (by decide) ?_
  refine lv_iload_n hx hb dX1_init_15 rfl (lv_at hl 0 rfl) ?_
  refine lv_aload_n hx hb dX1_init_16 rfl (lv_at hl 1 rfl) ?_
  refine bw_get S hK hI 44 0 rfl rfl (by decide) i_X1 f_X1_11 rfl dX1_init_17 ?_
  refine va_alen hx hb hK hI.1 45 2 (v := 6) rfl (ty := .object "BufferLoans$Desk") rfl rfl dX1_init_20 ?_
  refine lv_icmp_ge (tgt := 43) hx hb dX1_init_21 (by decide) (fun h9 => absurd h9 (by decide)) (fun _ => ?_)
  refine lv_aload_n hx hb dX1_init_24 rfl (lv_at hl 1 rfl) ?_
  refine bw_get S hK hI 44 0 rfl rfl (by decide) i_X1 f_X1_11 rfl dX1_init_25 ?_
  refine lv_iload_n hx hb dX1_init_28 rfl (lv_at hl 0 rfl) ?_
  refine bw_new S hK hI 0 [.null, .null, .null, .null, .null, .int 0, .int 0] tyX0 tyX0_ok i_X0 c_X1_9 n_X0 o_X0 rfl u_X0 (Nat.le_of_ble_eq_true rfl) (Nat.le_of_ble_eq_true rfl) dX1_init_29 (fun d H hI => ?_)
  refine lv_dup hx hb dX1_init_32 rfl ?_
  refine bw_callC S hK hZ hI (mX0_init l G cy g d) Y_X0_init rfl V_X0_init l_X1_17 ⟨(Nat.le_of_ble_eq_true rfl), (Nat.le_of_ble_eq_true rfl)⟩ (rs := (bw_dD cy a3 bw_d0 ++ (bw_dD cy a2 bw_d0 ++ (bw_dD cy a1 bw_d0 ++ (bw_dD cy a0 bw_d0 ++ ([(h, .inr (1, [.ref q, .int 0, .int 0])), (q, .inl (cy 2, 6, .inr (.inr (.inr (.inr (va_up (va_up (va_up (va_up (fun _ => none) 0 (some (a0 0))) 1 (some (a1 0))) 2 (some (a2 0))) 3 (some (a3 0))))))))])))))) (List.perm_append_comm) rfl hl.1 (rest := [.ref d, .int 4, .ref q]) rfl (Nat.le_of_ble_eq_true rfl) dX1_init_33 ⟨(Nat.le_of_ble_eq_true rfl), (Nat.le_of_ble_eq_true rfl)⟩ (fun a4 H locs hok hI => ?_)
  rw [← hok]
  clear hok
  refine bw_astq hx hb hK hI 56 0 (ws' := (bw_dD cy a4 bw_d0 ++ (bw_dD cy a3 bw_d0 ++ (bw_dD cy a2 bw_d0 ++ (bw_dD cy a1 bw_d0 ++ (bw_dD cy a0 bw_d0 ++ ([(h, .inr (1, [.ref q, .int 0, .int 0])), (q, .inl (cy 2, 6, .inr (.inr (.inr (.inr (va_up (va_up (va_up (va_up (va_up (fun _ => none) 0 (some (a0 0))) 1 (some (a1 0))) 2 (some (a2 0))) 3 (some (a3 0))) 4 (some (a4 0))))))))]))))))) rfl rfl (show vp_in 4 6 from by unfold vp_in; decide) rfl dX1_init_36 (fun H locs hI => ?_)
  refine lv_iinc (v := 5) (lv' := [(1, .int 5), (0, .ref h)]) hx hb dX1_init_37 hl (k := 0) rfl rfl (by decide) rfl (fun ls hl => ?_)
  refine lv_goto (tgt := 15) hx hb dX1_init_40 (by decide) ?_
  refine lv_iload_n hx hb dX1_init_15 rfl (lv_at hl 0 rfl) ?_
  refine lv_aload_n hx hb dX1_init_16 rfl (lv_at hl 1 rfl) ?_
  refine bw_get S hK hI 55 0 rfl rfl (by decide) i_X1 f_X1_11 rfl dX1_init_17 ?_
  refine va_alen hx hb hK hI.1 56 2 (v := 6) rfl (ty := .object "BufferLoans$Desk") rfl rfl dX1_init_20 ?_
  refine lv_icmp_ge (tgt := 43) hx hb dX1_init_21 (by decide) (fun h9 => absurd h9 (by decide)) (fun _ => ?_)
  refine lv_aload_n hx hb dX1_init_24 rfl (lv_at hl 1 rfl) ?_
  refine bw_get S hK hI 55 0 rfl rfl (by decide) i_X1 f_X1_11 rfl dX1_init_25 ?_
  refine lv_iload_n hx hb dX1_init_28 rfl (lv_at hl 0 rfl) ?_
  refine bw_new S hK hI 0 [.null, .null, .null, .null, .null, .int 0, .int 0] tyX0 tyX0_ok i_X0 c_X1_9 n_X0 o_X0 rfl u_X0 (Nat.le_of_ble_eq_true rfl) (Nat.le_of_ble_eq_true rfl) dX1_init_29 (fun d H hI => ?_)
  refine lv_dup hx hb dX1_init_32 rfl ?_
  refine bw_callC S hK hZ hI (mX0_init l G cy g d) Y_X0_init rfl V_X0_init l_X1_17 ⟨(Nat.le_of_ble_eq_true rfl), (Nat.le_of_ble_eq_true rfl)⟩ (rs := (bw_dD cy a4 bw_d0 ++ (bw_dD cy a3 bw_d0 ++ (bw_dD cy a2 bw_d0 ++ (bw_dD cy a1 bw_d0 ++ (bw_dD cy a0 bw_d0 ++ ([(h, .inr (1, [.ref q, .int 0, .int 0])), (q, .inl (cy 2, 6, .inr (.inr (.inr (.inr (va_up (va_up (va_up (va_up (va_up (fun _ => none) 0 (some (a0 0))) 1 (some (a1 0))) 2 (some (a2 0))) 3 (some (a3 0))) 4 (some (a4 0))))))))]))))))) (List.perm_append_comm) rfl hl.1 (rest := [.ref d, .int 5, .ref q]) rfl (Nat.le_of_ble_eq_true rfl) dX1_init_33 ⟨(Nat.le_of_ble_eq_true rfl), (Nat.le_of_ble_eq_true rfl)⟩ (fun a5 H locs hok hI => ?_)
  rw [← hok]
  clear hok
  refine bw_astq hx hb hK hI 67 0 (ws' := (bw_dD cy a5 bw_d0 ++ (bw_dD cy a4 bw_d0 ++ (bw_dD cy a3 bw_d0 ++ (bw_dD cy a2 bw_d0 ++ (bw_dD cy a1 bw_d0 ++ (bw_dD cy a0 bw_d0 ++ ([(h, .inr (1, [.ref q, .int 0, .int 0])), (q, .inl (cy 2, 6, .inr (.inr (.inr (.inr (va_up (va_up (va_up (va_up (va_up (va_up (fun _ => none) 0 (some (a0 0))) 1 (some (a1 0))) 2 (some (a2 0))) 3 (some (a3 0))) 4 (some (a4 0))) 5 (some (a5 0))))))))])))))))) rfl rfl (show vp_in 5 6 from by unfold vp_in; decide) rfl dX1_init_36 (fun H locs hI => ?_)
  refine lv_iinc (v := 6) (lv' := [(1, .int 6), (0, .ref h)]) hx hb dX1_init_37 hl (k := 0) rfl rfl (by decide) rfl (fun ls hl => ?_)
  refine lv_goto (tgt := 15) hx hb dX1_init_40 (by decide) ?_
  refine lv_iload_n hx hb dX1_init_15 rfl (lv_at hl 0 rfl) ?_
  refine lv_aload_n hx hb dX1_init_16 rfl (lv_at hl 1 rfl) ?_
  refine bw_get S hK hI 66 0 rfl rfl (by decide) i_X1 f_X1_11 rfl dX1_init_17 ?_
  refine va_alen hx hb hK hI.1 67 2 (v := 6) rfl (ty := .object "BufferLoans$Desk") rfl rfl dX1_init_20 ?_
  refine lv_icmp_ge (tgt := 43) hx hb dX1_init_21 (by decide) (fun _ => ?_) (fun h9 => absurd (by decide) h9)
  have hI := bw_recell 67 (ws' := (bw_dD cy a5 bw_d0 ++ (bw_dD cy a4 bw_d0 ++ (bw_dD cy a3 bw_d0 ++ (bw_dD cy a2 bw_d0 ++ (bw_dD cy a1 bw_d0 ++ (bw_dD cy a0 bw_d0 ++ ([(h, .inr (1, [.ref q, .int 0, .int 0])), (q, .inl (cy 2, 6, .inr (.inr (.inr (.inr (fun j => some ((fun k => [(fun _ => 0), (fun _ => 0), a0, a1, a2, a3, a4, a5, (fun j => if j = 0 then h else q)].getD k (fun _ => 0)) (2 + j) 0)))))))])))))))) hI rfl (bw_refs (f' := (fun j => some ((fun k => [(fun _ => 0), (fun _ => 0), a0, a1, a2, a3, a4, a5, (fun j => if j = 0 then h else q)].getD k (fun _ => 0)) (2 + j) 0))) (fun j hj => by
    rcases (show j = 0 ∨ j = 1 ∨ j = 2 ∨ j = 3 ∨ j = 4 ∨ j = 5 by omega) with rfl | rfl | rfl | rfl | rfl | rfl <;> rfl)) rfl
  have hp := bw_rev6 (bw_dD cy a5 bw_d0) (bw_dD cy a4 bw_d0) (bw_dD cy a3 bw_d0) (bw_dD cy a2 bw_d0) (bw_dD cy a1 bw_d0) (bw_dD cy a0 bw_d0) [(h, .inr (1, [.ref q, .int 0, .int 0])), (q, .inl (cy 2, 6, .inr (.inr (.inr (.inr (fun j => some ((fun k => [(fun _ => 0), (fun _ => 0), a0, a1, a2, a3, a4, a5, (fun j => if j = 0 then h else q)].getD k (fun _ => 0)) (2 + j) 0)))))))]
  exact bw_cret (ok := fun b => b 8 0 = h) (wf := (fun b => bw_hW cy b (fun _ => bw_d0) 0 0)) S hr hlocks (fun k => [(fun _ => 0), (fun _ => 0), a0, a1, a2, a3, a4, a5, (fun j => if j = 0 then h else q)].getD k (fun _ => 0)) rfl (bw_perm hI hp) (Nat.le_of_ble_eq_true rfl) (Nat.le_of_ble_eq_true rfl) dX1_init_43 hQ
set_option maxRecDepth 100000 in
theorem c_X5_9 : (Jvm.Cond.classLink "BufferLoans" (9 : Nat) "BufferLoans$Desk") ∈ bw_L := bw_memT 25 rfl rfl
set_option maxRecDepth 100000 in
theorem c_X5_19 : (Jvm.Cond.classLink "BufferLoans" (19 : Nat) "BufferLoans$History") ∈ bw_L := bw_memT 76 rfl rfl
set_option maxRecDepth 100000 in
theorem c_X5_26 : (Jvm.Cond.classLink "BufferLoans" (26 : Nat) "BufferLoans$Text") ∈ bw_L := bw_memT 95 rfl rfl
set_option maxRecDepth 100000 in
theorem l_X5_11 : (Jvm.Cond.methodLink "BufferLoans" (11 : Nat) ({ cls := "BufferLoans$Desk", name := "<init>", desc := "()V" } : Jvm.MethodName)) ∈ bw_L := bw_memT 27 rfl rfl
set_option maxRecDepth 100000 in
theorem l_X5_21 : (Jvm.Cond.methodLink "BufferLoans" (21 : Nat) ({ cls := "BufferLoans$History", name := "<init>", desc := "()V" } : Jvm.MethodName)) ∈ bw_L := bw_memT 78 rfl rfl
theorem bw_ord5 (x h d1 d0 o : va_W) : (x ++ (h ++ (d1 ++ (d0 ++ o)))).Perm (o ++ (d1 ++ (d0 ++ (h ++ (x ++ []))))) := by
  have h4 : (x ++ (h ++ (d1 ++ (d0 ++ o)))).Perm (o ++ (x ++ (h ++ (d1 ++ (d0 ++ []))))) := by
    have := bw_mv4 x h d1 d0 o []
    rwa [List.append_nil] at this
  refine h4.trans (List.Perm.append_left o ?_)
  refine (bw_mv2 x h d1 (d0 ++ [])).trans (List.Perm.append_left d1 ?_)
  refine (bw_mv2 x h d0 []).trans (List.Perm.append_left d0 ?_)
  exact bw_mv1 x h []
set_option maxHeartbeats 4000000 in
set_option maxRecDepth 100000 in
theorem mX5_init (l : Launch) (G : va_G) (cy : Nat → ClassId) (g : Nat) (h : Nat) : bw_MC (α := (Nat → Nat → Nat)) l yX5_init cX5_init 1 4 84 93 4075 G cy g [.ref h] [(h, .inr (5, [.null, .null, .null, .null]))] (fun b => b 8 5 = h) (fun b => bw_xW cy b bw_d0 bw_d0 (fun _ => bw_d0) 0 0 (fun _ => 0) 0 0 0 0) := by
  refine bw_ofWC (by decide +kernel) RX5 rfl rfl (Nat.le_of_ble_eq_true rfl) ?_
  intro p e s m below meth c ls S hr hlocks hini hK hZ hI hl
  have hx := S.1
  have hb := S.2.1
  have hts := S.2.2.2.2
  generalize va_A _ s.heap.size = A at hI hZ ⊢
  generalize hQ : MQ below _ _ s 93 4075 A = Q
  have hl : lv_has ls 1 [(0, .ref h)] := hl
  refine lv_aload_n hx hb dX5_init_0 rfl (lv_at hl 0 rfl) ?_
  refine bw_obj S hl.1 (rest := []) l_X5_3 l_JO_i l_JO_c dX5_init_1 (Nat.le_of_ble_eq_true rfl) (Nat.le_of_ble_eq_true rfl) ?_
  refine lv_aload_n hx hb dX5_init_4 rfl (lv_at hl 0 rfl) ?_
  refine bw_new S hK hI 0 [.null, .null, .null, .null, .null, .int 0, .int 0] tyX0 tyX0_ok i_X0 c_X5_9 n_X0 o_X0 rfl u_X0 (Nat.le_of_ble_eq_true rfl) (Nat.le_of_ble_eq_true rfl) dX5_init_5 (fun d H hI => ?_)
  refine lv_dup hx hb dX5_init_8 rfl ?_
  refine bw_callC S hK hZ hI (mX0_init l G cy g d) Y_X0_init rfl V_X0_init l_X5_11 ⟨(Nat.le_of_ble_eq_true rfl), (Nat.le_of_ble_eq_true rfl)⟩ (rs := ([(h, .inr (5, [.null, .null, .null, .null]))])) (List.perm_append_comm) rfl hl.1 (rest := [.ref d, .ref h]) rfl (Nat.le_of_ble_eq_true rfl) dX5_init_9 ⟨(Nat.le_of_ble_eq_true rfl), (Nat.le_of_ble_eq_true rfl)⟩ (fun a0 H locs hok hI => ?_)
  rw [← hok]
  clear hok
  refine bw_putF S hK hI hini 11 0 (ws' := (bw_dD cy a0 bw_d0 ++ ([(h, .inr (5, [.ref (a0 0), .null, .null, .null]))]))) tyX5 tyX5_ok nmX5 rfl rfl (by decide) i_X5 f_X5_12 rfl rfl rfl rfl rfl (Nat.le_of_ble_eq_true rfl) rfl dX5_init_12 (fun H locs hI => ?_)
  refine lv_aload_n hx hb dX5_init_15 rfl (lv_at hl 0 rfl) ?_
  refine bw_new S hK hI 0 [.null, .null, .null, .null, .null, .int 0, .int 0] tyX0 tyX0_ok i_X0 c_X5_9 n_X0 o_X0 rfl u_X0 (Nat.le_of_ble_eq_true rfl) (Nat.le_of_ble_eq_true rfl) dX5_init_16 (fun d H hI => ?_)
  refine lv_dup hx hb dX5_init_19 rfl ?_
  refine bw_callC S hK hZ hI (mX0_init l G cy g d) Y_X0_init rfl V_X0_init l_X5_11 ⟨(Nat.le_of_ble_eq_true rfl), (Nat.le_of_ble_eq_true rfl)⟩ (rs := (bw_dD cy a0 bw_d0 ++ ([(h, .inr (5, [.ref (a0 0), .null, .null, .null]))]))) (List.perm_append_comm) rfl hl.1 (rest := [.ref d, .ref h]) rfl (Nat.le_of_ble_eq_true rfl) dX5_init_20 ⟨(Nat.le_of_ble_eq_true rfl), (Nat.le_of_ble_eq_true rfl)⟩ (fun a1 H locs hok hI => ?_)
  rw [← hok]
  clear hok
  refine bw_putF S hK hI hini 22 1 (ws' := (bw_dD cy a1 bw_d0 ++ (bw_dD cy a0 bw_d0 ++ ([(h, .inr (5, [.ref (a0 0), .ref (a1 0), .null, .null]))])))) tyX5 tyX5_ok nmX5 rfl rfl (by decide) i_X5 f_X5_16 rfl rfl rfl rfl rfl (Nat.le_of_ble_eq_true rfl) rfl dX5_init_23 (fun H locs hI => ?_)
  refine lv_aload_n hx hb dX5_init_26 rfl (lv_at hl 0 rfl) ?_
  refine bw_new S hK hI 1 [.null, .int 0, .int 0] tyX1 tyX1_ok i_X1 c_X5_19 n_X1 o_X1 rfl u_X1 (Nat.le_of_ble_eq_true rfl) (Nat.le_of_ble_eq_true rfl) dX5_init_27 (fun d H hI => ?_)
  refine lv_dup hx hb dX5_init_30 rfl ?_
  refine bw_callC S hK hZ hI (mX1_init l G cy g d) Y_X1_init rfl V_X1_init l_X5_21 ⟨(Nat.le_of_ble_eq_true rfl), (Nat.le_of_ble_eq_true rfl)⟩ (rs := (bw_dD cy a1 bw_d0 ++ (bw_dD cy a0 bw_d0 ++ ([(h, .inr (5, [.ref (a0 0), .ref (a1 0), .null, .null]))])))) (List.perm_append_comm) rfl hl.1 (rest := [.ref d, .ref h]) rfl (Nat.le_of_ble_eq_true rfl) dX5_init_31 ⟨(Nat.le_of_ble_eq_true rfl), (Nat.le_of_ble_eq_true rfl)⟩ (fun b H locs hok hI => ?_)
  rw [← hok]
  clear hok
  refine bw_putF S hK hI hini 90 2 (ws' := (bw_hW cy b (fun _ => bw_d0) 0 0 ++ (bw_dD cy a1 bw_d0 ++ (bw_dD cy a0 bw_d0 ++ ([(h, .inr (5, [.ref (a0 0), .ref (a1 0), .ref (b 8 0), .null]))]))))) tyX5 tyX5_ok nmX5 rfl rfl (by decide) i_X5 f_X5_22 rfl rfl rfl rfl rfl (Nat.le_of_ble_eq_true rfl) rfl dX5_init_34 (fun H locs hI => ?_)
  refine lv_aload_n hx hb dX5_init_37 rfl (lv_at hl 0 rfl) ?_
  refine bw_new S hK hI 4 [.null, .null, .int 0] tyX4 tyX4_ok i_X4 c_X5_26 n_X4 o_X4 rfl u_X4 (Nat.le_of_ble_eq_true rfl) (Nat.le_of_ble_eq_true rfl) dX5_init_38 (fun x H hI => ?_)
  refine lv_dup hx hb dX5_init_41 rfl ?_
  refine bw_callCN S hK hZ hI (mX4_init l G cy g x) Y_X4_init rfl V_X4_init hZ.2.2.2.2.2.2.2.2.2.1 ⟨(Nat.le_of_ble_eq_true rfl), (Nat.le_of_ble_eq_true rfl)⟩ (rs := (bw_hW cy b (fun _ => bw_d0) 0 0 ++ (bw_dD cy a1 bw_d0 ++ (bw_dD cy a0 bw_d0 ++ ([(h, .inr (5, [.ref (a0 0), .ref (a1 0), .ref (b 8 0), .null]))]))))) (List.perm_append_comm) rfl hl.1 (rest := [.ref x, .ref h]) rfl (Nat.le_of_ble_eq_true rfl) dX5_init_42 ⟨(Nat.le_of_ble_eq_true rfl), (Nat.le_of_ble_eq_true rfl)⟩ (fun q H locs _ hI => ?_)
  refine bw_putF S hK hI hini 93 3 (ws' := (bw_xT cy x q.1 q.2 (fun _ => 0) 0 0 0 0 ++ (bw_hW cy b (fun _ => bw_d0) 0 0 ++ (bw_dD cy a1 bw_d0 ++ (bw_dD cy a0 bw_d0 ++ ([(h, .inr (5, [.ref (a0 0), .ref (a1 0), .ref (b 8 0), .ref x]))])))))) tyX5 tyX5_ok nmX5 rfl rfl (by decide) i_X5 f_X5_29 rfl rfl rfl rfl rfl (Nat.le_of_ble_eq_true rfl) rfl dX5_init_45 (fun H locs hI => ?_)
  have hI := bw_recell 4 (ws' := (bw_xT cy x q.1 q.2 (fun _ => 0) 0 0 0 0 ++ (bw_hW cy (fun k => if k = 0 then a0 else if k = 1 then a1 else if k = 8 then (fun j => [b 8 0, b 8 1, x, q.1, q.2, h].getD j 0) else b k) (fun _ => bw_d0) 0 0 ++ (bw_dD cy a1 bw_d0 ++ (bw_dD cy a0 bw_d0 ++ ([(h, .inr (5, [.ref (a0 0), .ref (a1 0), .ref (b 8 0), .ref x]))])))))) hI rfl (bw_refs (f' := fun j => some ((fun k => if k = 0 then a0 else if k = 1 then a1 else if k = 8 then (fun j => [b 8 0, b 8 1, x, q.1, q.2, h].getD j 0) else b k) (2 + j) 0)) (fun j hj => by
    rcases (show j = 0 ∨ j = 1 ∨ j = 2 ∨ j = 3 ∨ j = 4 ∨ j = 5 by omega) with rfl | rfl | rfl | rfl | rfl | rfl <;> rfl)) rfl
  have hp := bw_ord5 (bw_xT cy x q.1 q.2 (fun _ => 0) 0 0 0 0) (bw_hW cy (fun k => if k = 0 then a0 else if k = 1 then a1 else if k = 8 then (fun j => [b 8 0, b 8 1, x, q.1, q.2, h].getD j 0) else b k) (fun _ => bw_d0) 0 0) (bw_dD cy a1 bw_d0) (bw_dD cy a0 bw_d0) [(h, .inr (5, [.ref (a0 0), .ref (a1 0), .ref (b 8 0), .ref x]))]
  exact bw_cret (ok := fun b => b 8 5 = h) (wf := (fun b => bw_xW cy b bw_d0 bw_d0 (fun _ => bw_d0) 0 0 (fun _ => 0) 0 0 0 0)) S hr hlocks (fun k => if k = 0 then a0 else if k = 1 then a1 else if k = 8 then (fun j => [b 8 0, b 8 1, x, q.1, q.2, h].getD j 0) else b k) rfl (bw_perm hI hp) (Nat.le_of_ble_eq_true rfl) (Nat.le_of_ble_eq_true rfl) dX5_init_48 hQ
