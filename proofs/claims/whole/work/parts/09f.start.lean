/-! ===== the law's start (printed by start.py) ===== -/
def bw_z0 : bw_A1 := upd (upd (fun _ => 0) 4 30) 5 50
/-- the pure part: the law's loop, from the start, comes to its end with true -/
def bw_S0 (L : Nat) (xs : Nat → Int32) : Prop := lL_law_23 L xs 5000 bw_d0 bw_d0 (fun _ => bw_d0) 0 0 (fun _ => 0) 0 0 0 0 bw_z0 (fun _ => 0) (fun _ => 0) 0 (fun _ => 0) 0 0 (fun _ => 0) 0 0 0 0 0 0 0 (fun _ => 0) 0 (fun _ => 0) 0 = some ()
theorem bw_memR {w : Cond} (i : Nat) (h : tables_1[i]? = some w) : w ∈ lw_tbl := List.mem_append_right _ (List.mem_of_getElem? h)
theorem bw_inL {w : Cond} (h : w ∈ bw_L) : w ∈ lw_tbl := (List.mem_filter.mp h).1
theorem bw_str {args : Array Value} {s : State} {k : Nat} {tx : String} (h1 : (Cond.stringRef "BufferLoans" k tx).before args s = true) (h2 : (Cond.exactly (.string "BufferLoans" k) "java/lang/String").before args s = true) : ∃ a : Nat, vk_R "BufferLoans" k tx a s := by
  obtain ⟨a, c, cA, kA, q1, -⟩ := Cond.exactly_spec (args := args) (first := s) (o := none) (s := s) (idx := []) (t := .string "BufferLoans" k) (cls := "java/lang/String") h2
  exact ⟨a, vk_R.of h1 q1⟩
theorem bw_arr {args : Array Value} {s : State} {ty : FieldType} (h : (Cond.arrayClass ty).before args s = true) : ∃ c : ClassId, ArrOfT s c ty ∧ s.vm.findClass ("[" ++ ty.toString) = some c := by
  obtain ⟨c, k, comp, h1, h2, h3⟩ := Cond.arrayClass_spec h
  exact ⟨c, fun N z => ⟨fun k h => (by cases h), k, h2, comp, h3⟩, h1⟩
theorem bw_arrq {args : Array Value} {s : State} {C : String} (h : (Cond.arrayOver (.object C)).before args s = true) : ∃ c : ClassId, ArrOfT s c (.object C) ∧ va_RA s c (.object C) := by
  obtain ⟨comp, c, k, h1, h2, h3, h4, h5⟩ := Cond.arrayOver_spec h
  exact ⟨c, fun N z => ⟨fun k h => (by cases h), k, h3, comp, h4⟩, k, comp, h3, h4, h1, h5⟩
set_option maxRecDepth 100000 in
theorem bw_K0 {args : Array Value} {s : State} (hts : ∀ w ∈ lw_tbl, w.before args s = true) : ∃ (G : va_G) (cy : Nat → ClassId), va_K G vwCl (bw_tys cy) s := by
  have hL : ∀ w ∈ bw_L, w.before args s = true := fun w h => hts w (bw_inL h)
  obtain ⟨c0, i0, h0⟩ := u_known hL i_X0 (hts (.instantiable RX0 7) (bw_memR 26 rfl))
  obtain ⟨c1, i1, h1⟩ := u_known hL i_X1 (hts (.instantiable RX1 3) (bw_memR 77 rfl))
  obtain ⟨c2, i2, h2⟩ := u_known hL i_X2 (hts (.instantiable RX2 3) (bw_memR 102 rfl))
  obtain ⟨c3, i3, h3⟩ := u_known hL i_X3 (hts (.instantiable RX3 2) (bw_memR 32 rfl))
  obtain ⟨c4, i4, h4⟩ := u_known hL i_X4 (hts (.instantiable RX4 3) (bw_memR 96 rfl))
  obtain ⟨c5, i5, h5⟩ := u_known hL i_X5 (hts (.instantiable RX5 4) (bw_memR 18 rfl))
  obtain ⟨c6, i6, h6⟩ := u_known hL i_X6 (hts (.instantiable RX6 17) (bw_memR 753 rfl))
  obtain ⟨y0, a0, b0⟩ := bw_arr (hts (.arrayClass .int) (bw_memR 47 rfl))
  obtain ⟨y1, a1, b1⟩ := bw_arr (hts (.arrayClass .long) (bw_memR 1138 rfl))
  obtain ⟨y2, a2, b2⟩ := bw_arrq (hts (.arrayOver (.object "BufferLoans$Desk")) (bw_memR 83 rfl))
  refine ⟨((fun k => match k with | 0 => c0 | 1 => c1 | 2 => c2 | 3 => c3 | 4 => c4 | 5 => c5 | _ => c6), (fun k => match k with | 0 => i0 | 1 => i1 | 2 => i2 | 3 => i3 | 4 => i4 | 5 => i5 | _ => i6)), (fun k => match k with | 0 => y0 | 1 => y1 | _ => y2), fun c q hq => ?_, fun k q hq => ?_⟩
  · match c, hq with
    | 0, hq => cases hq; exact h0
    | 1, hq => cases hq; exact h1
    | 2, hq => cases hq; exact h2
    | 3, hq => cases hq; exact h3
    | 4, hq => cases hq; exact h4
    | 5, hq => cases hq; exact h5
    | 6, hq => cases hq; exact h6
    | (n + 7), hq => exact absurd hq (by simp)
  · match k, hq with
    | 0, hq => cases hq; exact ⟨a0, b0⟩
    | 1, hq => cases hq; exact ⟨a1, b1⟩
    | 2, hq => cases hq; exact ⟨a2, b2⟩
    | (n + 3), hq => exact absurd hq (by simp)
set_option maxRecDepth 100000 in
theorem bw_N0 {args : Array Value} {s : State} (hts : ∀ w ∈ lw_tbl, w.before args s = true) (hgv : (Jvm.Cond.and given_1 narrow_1).before args s = true) : bw_N s := by
  have hs := flat_of_before _ hgv
  refine ⟨fun k h1 h2 => ?_, fun j k h1 h2 h3 h4 h5 => ?_, fun q hq => ?_, fun x hx => ?_, va_Nw.of rfl (hts _ (bw_memR 48 rfl)), va_Nw.of rfl (hts _ (bw_memR 97 rfl)), va_Nw.of rfl (hts _ (bw_memR 103 rfl)), va_AO.of (hts _ (bw_memR 83 rfl))⟩
  · have h : k = 1 ∨ k = 2 ∨ k = 3 := by omega
    rcases h with rfl | rfl | rfl
    · exact va_Nw.of rfl (hts _ (bw_memR 531 rfl))
    · exact va_Nw.of rfl (hts _ (bw_memR 421 rfl))
    · exact va_Nw.of rfl (hts _ (bw_memR 489 rfl))
  · have h : (j = 1 ∧ k = 2) ∨ (j = 1 ∧ k = 3) ∨ (j = 2 ∧ k = 1) ∨ (j = 2 ∧ k = 3) ∨ (j = 3 ∧ k = 1) ∨ (j = 3 ∧ k = 2) := by omega
    rcases h with ⟨rfl, rfl⟩ | ⟨rfl, rfl⟩ | ⟨rfl, rfl⟩ | ⟨rfl, rfl⟩ | ⟨rfl, rfl⟩ | ⟨rfl, rfl⟩
    all_goals exact va_Nc.of (hs _ (by decide +kernel))
  · refine bw_str (hts _ ?_) (hs _ ?_)
    · exact List.mem_append_right _ ((by decide +kernel : ∀ q ∈ bw_strs, Cond.stringRef "BufferLoans" q.1 q.2 ∈ tables_1) q hq)
    · revert q; decide +kernel
  · exact va_Nw.of rfl (hts _ (List.mem_append_right _ ((by decide +kernel : ∀ x ∈ bw_dcl, Cond.declares x ∈ tables_1) x hx)))
set_option maxRecDepth 100000 in
theorem bw_Z0 {args : Array Value} {s : State} {A : Nat → Prop} (hts : ∀ w ∈ lw_tbl, w.before args s = true) (hgv : (Jvm.Cond.and given_1 narrow_1).before args s = true) (hA : ∀ a : Nat, a < s.heap.size → ¬ A a) : ∃ g : Nat, bw_Z g A s s.heap := by
  have hs := flat_of_before _ hgv
  have hlen : (Cond.eq (.length (.static "BufferLoans" "GREATEST_VALUES" "[I")) (.int 3)).before args s = true := hs _ (by decide +kernel)
  have he0 : (Cond.eq (.elem (.static "BufferLoans" "GREATEST_VALUES" "[I") (.int 0)) (.int 2)).before args s = true := hs _ (by decide +kernel)
  have he1 : (Cond.eq (.elem (.static "BufferLoans" "GREATEST_VALUES" "[I") (.int 1)) (.int 100)).before args s = true := hs _ (by decide +kernel)
  have he2 : (Cond.eq (.elem (.static "BufferLoans" "GREATEST_VALUES" "[I") (.int 2)) (.int 100)).before args s = true := hs _ (by decide +kernel)
  have har : (Cond.arrayOf (.static "BufferLoans" "GREATEST_VALUES" "[I") .int).before args s = true := hs _ (by decide +kernel)
  obtain ⟨g, hg, hT⟩ := va_Tof (N := 3) (f := fun j => .int (bw_gv j)) (A := A) (by decide) har (va_eqt hlen) (fun j hj => by
    have h : j = 0 ∨ j = 1 ∨ j = 2 := by omega
    rcases h with rfl | rfl | rfl
    · exact va_eqt he0
    · exact va_eqt he1
    · exact va_eqt he2) hA
  refine ⟨g, va_Zof (hts _ (bw_memR 49 rfl)) (hts _ (bw_memR 1 rfl)) hg hA, hT, vx_Zqof (hts _ (bw_memR 446 rfl)) (hts _ (bw_memR 9 rfl)) (hs _ (by decide +kernel)) hA, vx_Zqof (hts _ (bw_memR 448 rfl)) (hts _ (bw_memR 9 rfl)) (hs _ (by decide +kernel)) hA, bw_N0 hts hgv⟩
set_option maxRecDepth 100000 in
theorem c_L_8 : (Jvm.Cond.classLink "BufferLoansLaw" (8 : Nat) "BufferLoans") ∈ bw_L := bw_memT 17 rfl rfl
set_option maxRecDepth 100000 in
theorem c_L_83 : (Jvm.Cond.classLink "BufferLoansLaw" (83 : Nat) "BufferLoansModel") ∈ bw_L := bw_memT 752 rfl rfl
set_option maxRecDepth 100000 in
theorem n_X5 : (Cond.instantiable RX5 4) ∈ bw_L := bw_memT 18 rfl rfl
set_option maxRecDepth 100000 in
theorem n_X6 : (Cond.instantiable RX6 17) ∈ bw_L := bw_memT 753 rfl rfl
set_option maxRecDepth 100000 in
theorem o_X5 : (Cond.initialized RX5) ∈ bw_L := bw_memT 1 rfl rfl
set_option maxRecDepth 100000 in
theorem o_X6 : (Cond.initialized RX6) ∈ bw_L := bw_memT 8 rfl rfl
set_option maxRecDepth 100000 in
theorem l_L_82 : (Jvm.Cond.methodLink "BufferLoansLaw" (82 : Nat) ({ cls := "BufferLoans", name := "<init>", desc := "()V" } : Jvm.MethodName)) ∈ bw_L := bw_memT 19 rfl rfl
set_option maxRecDepth 100000 in
theorem l_L_85 : (Jvm.Cond.methodLink "BufferLoansLaw" (85 : Nat) ({ cls := "BufferLoansModel", name := "<init>", desc := "()V" } : Jvm.MethodName)) ∈ bw_L := bw_memT 754 rfl rfl
set_option maxRecDepth 100000 in
theorem w_long : (Cond.arrayClass .long) ∈ bw_L := bw_memT 1138 rfl rfl
theorem bw_pl0 (cy : Nat → ClassId) (b5 : Nat → Nat → Nat) (a6 : Nat → Nat) (o : Nat) : ((bw_mW cy a6 bw_z0 (fun _ => 0) (fun _ => 0) 0 (fun _ => 0) 0 0 (fun _ => 0) 0 0 0 0 0 0 0 (fun _ => 0) 0 ++ (bw_xW cy b5 bw_d0 bw_d0 (fun _ => bw_d0) 0 0 (fun _ => 0) 0 0 0 0 ++ [])) ++ ([(o, .inl (cy 1, 1, .inr (.inl (fun _ => 0))))] : va_W)).Perm (bw_lW cy b5 a6 o bw_d0 bw_d0 (fun _ => bw_d0) 0 0 (fun _ => 0) 0 0 0 0 bw_z0 (fun _ => 0) (fun _ => 0) 0 (fun _ => 0) 0 0 (fun _ => 0) 0 0 0 0 0 0 0 (fun _ => 0) 0 (fun _ => 0)) := by
  have h : ∀ (M X O : va_W), ((M ++ (X ++ [])) ++ O).Perm (X ++ (O ++ (M ++ []))) := fun M X O => by
    rw [List.append_nil, List.append_nil, List.append_assoc]
    exact List.perm_append_comm.trans (by rw [List.append_assoc])
  exact h _ _ _
set_option maxHeartbeats 4000000 in
set_option maxRecDepth 100000 in
theorem bw_start {p : Program} {e : Env} {s : State} {m : MethodId} {below : List Frame} {meth : Method} {c : Code} (l : Launch) (hflags : l.flags = flags0) {b L : Nat} {xs : Nat → Int32} (C0 : lw_At p s m meth c b L xs) (hp : bw_S0 L xs) : W p l e room_1 s m #[Value.ref b] below meth c s.heap [] 0 0 (lw_Z below #[Value.ref b] s) (entryFrame m ([Value.ref b] : List Value).toArray 9) := by
  obtain ⟨hx, hb, hr, hml, hown, hts, hX, hbl, hlocks, hgv⟩ := C0
  obtain ⟨G, cy, hK⟩ := bw_K0 hts
  obtain ⟨g, hZ⟩ := bw_Z0 (A := fun q => s.heap.size ≤ q) hts hgv (fun a h1 h2 => Nat.lt_irrefl _ (Nat.lt_of_lt_of_le h1 h2))
  generalize hAA : (fun q => s.heap.size ≤ q) = A at hZ
  have hA9 : ∀ q, A q → s.heap.size ≤ q := fun q h => by rw [← hAA] at h; exact h
  have hA8 : ∀ q, s.heap.size ≤ q → A q := fun q h => by rw [← hAA]; exact h
  have hbA : ¬ A b := fun h => Nat.lt_irrefl _ (Nat.lt_of_lt_of_le hbl (hA9 b h))
  have hI : bw_I G A s.heap [] s.heap [] := ⟨fun k q h => (by simp at h), ⟨fun i j p q h => (by simp at h), fun k q h => (by simp at h)⟩, va_S.rf, hA8⟩
  have S : CallFix p m c code 9 s #[Value.ref b] (Cond.initialized RX5 :: bw_L) RL := ⟨hx, hb, hml, hown, fun w h => by
    rcases List.mem_cons.mp h with rfl | h
    · exact hts _ (bw_inL o_X5)
    · exact hts _ (bw_inL h)⟩
  rw [lg_entry_eq]
  have hl := lv_entry [Value.ref b] (n := 9) (Nat.le_of_ble_eq_true rfl)
  generalize ((lg_sl [Value.ref b] ++ List.replicate (9 - (lg_sl [Value.ref b]).length) Slot.unset).toArray) = ls at hl ⊢
  have hl : lv_has ls 9 [(0, .ref b)] := hl
  refine bw_new S hK hI 5 [.null, .null, .null, .null] tyX5 tyX5_ok i_X5 c_L_8 n_X5 o_X5 rfl u_X5 (Nat.le_of_ble_eq_true rfl) (Nat.le_of_ble_eq_true rfl) dL_law_0 (fun h1 H hI => ?_)
  refine lv_dup hx hb dL_law_3 rfl ?_
  refine bw_callC S hK hZ hI (mX5_init l G cy g h1) Y_X5_init rfl V_X5_init l_L_82 ⟨(Nat.le_of_ble_eq_true rfl), (Nat.le_of_ble_eq_true rfl)⟩ (rs := []) (List.Perm.refl _) rfl hl.1 (rest := [.ref h1]) rfl (Nat.le_of_ble_eq_true rfl) dL_law_4 ⟨(Nat.le_of_ble_eq_true rfl), (Nat.le_of_ble_eq_true rfl)⟩ (fun b5 H locs hok hI => ?_)
  rw [← hok]
  clear hok
  refine lv_astore_n (lv' := [(1, .ref (b5 8 5)), (0, .ref b)]) hx hb dL_law_7 rfl hl (by decide) rfl (fun ls hl => ?_)
  refine bw_new S hK hI 6 [.null, .null, .null, .int 0, .null, .int 0, .int 0, .null, .int 0, .int 0, .int 0, .int 0, .int 0, .int 0, .int 0, .null, .long 0] tyX6 tyX6_ok i_X6 c_L_83 n_X6 o_X6 rfl u_X6 (Nat.le_of_ble_eq_true rfl) (Nat.le_of_ble_eq_true rfl) dL_law_8 (fun h2 H hI => ?_)
  refine lv_dup hx hb dL_law_11 rfl ?_
  refine bw_callC S hK hZ hI (mX6_init l G cy g h2) Y_X6_init rfl V_X6_init l_L_85 ⟨(Nat.le_of_ble_eq_true rfl), (Nat.le_of_ble_eq_true rfl)⟩ (rs := (bw_xW cy b5 bw_d0 bw_d0 (fun _ => bw_d0) 0 0 (fun _ => 0) 0 0 0 0 ++ [])) (List.perm_append_comm) rfl hl.1 (rest := [.ref h2]) rfl (Nat.le_of_ble_eq_true rfl) dL_law_12 ⟨(Nat.le_of_ble_eq_true rfl), (Nat.le_of_ble_eq_true rfl)⟩ (fun a6 H locs hok hI => ?_)
  rw [← hok]
  clear hok
  refine lv_astore_n (lv' := [(2, .ref (a6 0)), (1, .ref (b5 8 5)), (0, .ref b)]) hx hb dL_law_15 rfl hl (by decide) rfl (fun ls hl => ?_)
  refine lv_iconst (v := 1) hx hb dL_law_16 rfl ?_
  refine va_newa (atype := .long) (ty := .long) (a0 := (1, .inr (.inl (fun _ => 0)))) hx hb (hts _ (bw_inL w_long)) rfl hK hI.1 hI.2.1 hI.2.2.1 hI.2.2.2 (N' := 1) (fun cA => rfl) (by decide) (by decide) (by decide) (Nat.le_of_ble_eq_true rfl) (Nat.le_of_ble_eq_true rfl) dL_law_17 (fun o cA H hK1 j1 j2 j3 => ?_)
  have e1 : s.vm.findClass ("[" ++ FieldType.long.toString) = some cA := (hK1.2 3 (cA, .long) rfl).2
  have e2 : s.vm.findClass ("[" ++ FieldType.long.toString) = some (cy 1) := (hK.2 1 (cy 1, .long) rfl).2
  have e3 : cA = cy 1 := Option.some.inj (e1.symm.trans e2)
  subst e3
  have hI := bw_perm (G := G) (A := A) (H0 := s.heap) (H := H) (locs := locs) ⟨j1, j2, j3, hI.2.2.2⟩ (bw_pl0 cy b5 a6 o)
  refine lv_astore_n (lv' := [(3, .ref o), (2, .ref (a6 0)), (1, .ref (b5 8 5)), (0, .ref b)]) hx hb dL_law_19 rfl hl (by decide) rfl (fun ls hl => ?_)
  refine lv_iconst (v := 0) hx hb dL_law_20 rfl ?_
  refine lv_istore (lv' := [(4, .int 0), (3, .ref o), (2, .ref (a6 0)), (1, .ref (b5 8 5)), (0, .ref b)]) hx hb dL_law_21 hl (by decide) rfl (fun ls hl => ?_)
  refine W.widen (k := 601024 - 4 * 5000) (n := 7293034 - 24 * 5000) (by omega) (by omega) ?_
  exact lL_law_23_w l (bw_traces hflags) G cy g b5 a6 o b L xs S hr hlocks hK hZ hX hbl hbA hA9 5000 (Nat.le_refl _) H locs ls bw_d0 bw_d0 (fun _ => bw_d0) 0 0 (fun _ => 0) 0 0 0 0 bw_z0 (fun _ => 0) (fun _ => 0) 0 (fun _ => 0) 0 0 (fun _ => 0) 0 0 0 0 0 0 0 (fun _ => 0) 0 (fun _ => 0) 0 hp hI (lv_sub hl [4,3,2,1,0] rfl)
