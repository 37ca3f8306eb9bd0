/-! ===== the layer: one list of words for all methods; a world as a list of cells; a row a step ===== -/
def bw_L : List Cond := lw_tbl.filter goodWord
theorem bw_mem {w : Cond} (i : Nat) (h : lw_tbl[i]? = some w) (g : goodWord w = true) : w ∈ bw_L := List.mem_filter.mpr ⟨List.mem_of_getElem? h, g⟩
theorem bw_memT {w : Cond} (i : Nat) (h : tables_1[i]? = some w) (g : goodWord w = true) : w ∈ bw_L := List.mem_filter.mpr ⟨List.mem_append_right _ (List.mem_of_getElem? h), g⟩
abbrev bw_ws (y : MethodName) (cc : ByteArray) (n : Nat) (r : Option FieldType) : List Cond := Cond.code y cc n r :: bw_L
theorem bw_good {x : Cond} {y : MethodName} {cc : ByteArray} {n : Nat} {r : Option FieldType} (h : Cond.code y cc n r ∈ bw_L) : GoodIn (x :: bw_L) (bw_ws y cc n r) := by
  intro w hw
  rcases List.mem_cons.mp hw with rfl | hw
  · exact ⟨List.mem_cons_of_mem _ h, good_of_word (List.mem_filter.mp h).2⟩
  · exact ⟨List.mem_cons_of_mem _ hw, good_of_word (List.mem_filter.mp hw).2⟩
abbrev bw_rm (f loc : Nat) : Room := { frames := f, cells := 0, slots := 0, locals := loc }
/-- what a call needs to know of the callee by its name: its code's row, that its owner stands, how many arguments -/
def bw_Y (y : MethodName) (cc : ByteArray) (n : Nat) (r : Option FieldType) (k : Nat) : Prop :=
  Cond.code y cc n r ∈ bw_L ∧ Cond.initialized y.cls ∈ bw_L ∧ (y.cls ≠ "java/lang/invoke/MethodHandle" ∧ y.cls ≠ "java/lang/invoke/VarHandle") ∧ (parseMethodDescriptor y.desc).map (fun d => d.parameters.length) = some k
theorem bw_cb {R : Room} {s : State} {args : Array Value} {own : String} {index : Nat} {y : MethodName} {cc : ByteArray} {n : Nat} {r : Option FieldType} {k : Nat} {x : Cond} {rm : Room} {mc ms : Nat} (hts : ∀ w ∈ x :: bw_L, w.before args s = true) (hY : bw_Y y cc n r k) (hl : Cond.methodLink own index y ∈ bw_L) (hR : rm.frames + 1 ≤ R.frames ∧ 8 + (n + 11) + rm.locals ≤ R.locals) (hrc : rm.cells = mc) (hrs : rm.slots = ms) : CallB R s args own index y cc n r (bw_ws y cc n r) rm mc ms k := by
  obtain ⟨h1, h2, h3, h4⟩ := hY
  exact callB_of k hts (bw_good h1) rfl hrc hrs (hts _ (List.mem_cons_of_mem _ h2)) (hts _ (List.mem_cons_of_mem _ hl)) ⟨h3.1, h3.2, h4⟩ hR
theorem bw_cwV {R : Room} {s : State} {args : Array Value} {own C : String} {index : Nat} {y : MethodName} {cc : ByteArray} {n : Nat} {r : Option FieldType} {k : Nat} {x : Cond} {rm : Room} {mc ms : Nat} (hts : ∀ w ∈ x :: bw_L, w.before args s = true) (hY : bw_Y y cc n r k) (hV : Cond.instanceMethod y ∈ bw_L ∧ Cond.selects C y y ∈ bw_L) (hl : Cond.methodLink own index y ∈ bw_L) (hR : rm.frames + 1 ≤ R.frames ∧ 8 + (n + 11) + rm.locals ≤ R.locals) (hrc : rm.cells = mc) (hrs : rm.slots = ms) : CallW R s args own C index y cc n r (bw_ws y cc n r) rm mc ms k :=
  ⟨bw_cb hts hY hl hR hrc hrs, hts _ (List.mem_cons_of_mem _ hV.1), hts _ (List.mem_cons_of_mem _ hV.2)⟩
theorem bw_cwS {R : Room} {s : State} {args : Array Value} {own : String} {index : Nat} {y : MethodName} {cc : ByteArray} {n : Nat} {r : Option FieldType} {k : Nat} {x : Cond} {rm : Room} {mc ms : Nat} (hts : ∀ w ∈ x :: bw_L, w.before args s = true) (hY : bw_Y y cc n r k) (hV : Cond.static y ∈ bw_L) (hl : Cond.methodLink own index y ∈ bw_L) (hR : rm.frames + 1 ≤ R.frames ∧ 8 + (n + 11) + rm.locals ≤ R.locals) (hrc : rm.cells = mc) (hrs : rm.slots = ms) : CallB R s args own index y cc n r (bw_ws y cc n r) rm mc ms k ∧ (Cond.static y).before args s = true :=
  ⟨bw_cb hts hY hl hR hrc hrs, hts _ (List.mem_cons_of_mem _ hV)⟩
/-! worlds as sets of cells -/
theorem bw_P_iff {D : va_G} {cl : List vw_C} {ws : va_W} {H : Heap} : va_P D cl ws H ↔ ∀ q ∈ ws, va_at D cl q H := by
  constructor
  · intro h q hq
    obtain ⟨i, hi⟩ := List.getElem?_of_mem hq
    exact h i q hi
  · intro h k q hk
    exact h q (List.mem_of_getElem? hk)
theorem bw_D_iff {A : Nat → Prop} {ws : va_W} : va_D A ws ↔ (ws.map Prod.fst).Nodup ∧ ∀ q ∈ ws, A q.1 := by
  constructor
  · rintro ⟨h1, h2⟩
    refine ⟨?_, fun q hq => ?_⟩
    · rw [List.nodup_iff_pairwise_ne, List.pairwise_map, List.pairwise_iff_getElem]
      intro i j hi hj hij he
      have := h1 i j ws[i] ws[j] (List.getElem?_eq_getElem hi) (List.getElem?_eq_getElem hj) he
      omega
    · obtain ⟨i, hi⟩ := List.getElem?_of_mem hq
      exact h2 i q hi
  · rintro ⟨h1, h2⟩
    refine ⟨fun i j p q hi hj he => ?_, fun k q hk => h2 q (List.mem_of_getElem? hk)⟩
    rw [List.nodup_iff_pairwise_ne, List.pairwise_map, List.pairwise_iff_getElem] at h1
    obtain ⟨hil, rfl⟩ := List.getElem?_eq_some_iff.mp hi
    obtain ⟨hjl, rfl⟩ := List.getElem?_eq_some_iff.mp hj
    rcases Nat.lt_trichotomy i j with h | h | h
    · exact absurd he (h1 i j hil hjl h)
    · exact h
    · exact absurd he.symm (h1 j i hjl hil h)
theorem bw_A_iff {ws : va_W} {sz q : Nat} : va_A ws sz q ↔ q ∈ ws.map Prod.fst ∨ sz ≤ q := by
  unfold va_A
  constructor
  · rintro (⟨k, e, h⟩ | h)
    · exact Or.inl (List.mem_map.mpr ⟨(q, e), List.mem_of_getElem? h, rfl⟩)
    · exact Or.inr h
  · rintro (h | h)
    · obtain ⟨⟨a, e⟩, h1, rfl⟩ := List.mem_map.mp h
      obtain ⟨k, hk⟩ := List.getElem?_of_mem h1
      exact Or.inl ⟨k, e, hk⟩
    · exact Or.inr h
abbrev bw_tys (cy : Nat → ClassId) : List (ClassId × FieldType) := [(cy 0, .int), (cy 1, .long), (cy 2, .object "BufferLoans$Desk")]
/-- the world ws stands in H, apart; since H0 nothing outside A was written -/
def bw_I (G : va_G) (A : Nat → Prop) (H0 : Heap) (ws : va_W) (H : Heap) (locs : List Loc) : Prop := va_P G vwCl ws H ∧ va_D A ws ∧ va_S A H0 H locs ∧ ∀ q, H0.size ≤ q → A q
theorem bw_perm {G : va_G} {A : Nat → Prop} {H0 H : Heap} {ws ws' : va_W} {locs : List Loc} (h : bw_I G A H0 ws H locs) (hp : ws.Perm ws') : bw_I G A H0 ws' H locs := by
  obtain ⟨hP, hD, hS, hA⟩ := h
  refine ⟨bw_P_iff.mpr fun q hq => bw_P_iff.mp hP q (hp.mem_iff.mpr hq), bw_D_iff.mpr ⟨?_, fun q hq => (bw_D_iff.mp hD).2 q (hp.mem_iff.mpr hq)⟩, hS, hA⟩
  exact (hp.map Prod.fst).nodup_iff.mp (bw_D_iff.mp hD).1
/-- behind a call: the callee's cells come back, the rest is as it was -/
theorem bw_join {G : va_G} {A : Nat → Prop} {H0 H H1 : Heap} {ws wc rs w1 ws' : va_W} {locs locs1 : List Loc} (hI : bw_I G A H0 ws H locs) (he : ws.Perm (wc ++ rs)) (he' : (w1 ++ rs).Perm ws') (hf : w1.map Prod.fst = wc.map Prod.fst)
    (hk : ∀ q : Nat, q < H.size → ¬ va_A wc H.size q → H1[q]? = H[q]?) (hP1 : va_P G vwCl w1 H1) (hS1 : va_S A H0 H1 locs1) : bw_I G A H0 ws' H1 locs1 := by
  obtain ⟨hP, hD, -, hA⟩ := bw_perm hI he
  refine bw_perm ⟨?_, ?_, hS1, hA⟩ he'
  · rw [bw_P_iff]
    intro q hq
    rcases List.mem_append.mp hq with h | h
    · exact bw_P_iff.mp hP1 q h
    · have h2 := bw_P_iff.mp hP q (List.mem_append_right _ h)
      refine h2.kept (hk q.1 h2.lt ?_)
      rw [bw_A_iff]
      rintro (h3 | h3)
      · have hn := (bw_D_iff.mp hD).1
        rw [List.map_append, List.nodup_append] at hn
        exact hn.2.2 q.1 h3 q.1 (List.mem_map.mpr ⟨q, h, rfl⟩) rfl
      · have := h2.lt
        omega
  · rw [bw_D_iff]
    have hd := bw_D_iff.mp hD
    refine ⟨?_, fun q hq => ?_⟩
    · rw [List.map_append, hf, ← List.map_append]
      exact hd.1
    · rcases List.mem_append.mp hq with h | h
      · have : q.1 ∈ wc.map Prod.fst := by rw [← hf]; exact List.mem_map.mpr ⟨q, h, rfl⟩
        obtain ⟨q2, h3, h4⟩ := List.mem_map.mp this
        rw [← h4]
        exact hd.2 q2 (List.mem_append_left _ h3)
      · exact hd.2 q (List.mem_append_right _ h)
theorem bw_pS (ws : va_W) : ws.Perm (ws ++ []) := by rw [List.append_nil]
theorem bw_pS' (ws : va_W) : (ws ++ []).Perm ws := by rw [List.append_nil]
theorem bw_p0 (ws : va_W) : ws.Perm ([] ++ ws) := List.Perm.refl _
/-! Option: definedness -/
theorem bw_bind {α β : Type} {x : Option α} {f : α → Option β} {r : β} (h : x.bind f = some r) : ∃ a, x = some a ∧ f a = some r := Option.bind_eq_some_iff.mp h
theorem bw_none {α : Type} {r : α} {P : Prop} (h : (none : Option α) = some r) : P := by cases h
def bw_rd (n : Nat) (f : Nat → Int32) (i : Int32) : Option Int32 := if i < 0 ∨ n ≤ i.toNatClampNeg then none else some (f i.toNatClampNeg)
def bw_wr (n : Nat) (f : Nat → Int32) (i x : Int32) : Option (Nat → Int32) := if i < 0 ∨ n ≤ i.toNatClampNeg then none else some (upd f i.toNatClampNeg x)
theorem bw_rd_e {n : Nat} {f : Nat → Int32} {i v : Int32} (h : bw_rd n f i = some v) : vp_in i n ∧ f i.toNatClampNeg = v := by
  unfold bw_rd at h
  split at h
  · cases h
  · rename_i h2
    exact ⟨h2, Option.some.inj h⟩
theorem bw_wr_e {n : Nat} {f f' : Nat → Int32} {i x : Int32} (h : bw_wr n f i x = some f') : vp_in i n ∧ upd f i.toNatClampNeg x = f' := by
  unfold bw_wr at h
  split at h
  · cases h
  · rename_i h2
    exact ⟨h2, Option.some.inj h⟩
/-- a named value -/
def bw_let {α β : Type} (v : α) (f : α → β) : β := f v
theorem bw_let_e {α β : Type} {v x : α} {f : α → β} {r : β} (h : bw_let v f = r) (e : x = v) : f x = r := by subst e; exact h
/-- an answer of a method that is boolean: 0 or 1 -/
def bw_bool {α : Type} (v : Int32) (r : Option α) : Option α := if v = 0 ∨ v = 1 then r else none
theorem bw_bool_e {α : Type} {v : Int32} {r : Option α} {x : α} (h : bw_bool v r = some x) : narrow .boolean (.int v) = .int v ∧ r = some x := by
  unfold bw_bool at h
  split at h
  · rename_i h2
    refine ⟨?_, h⟩
    rcases h2 with rfl | rfl <;> rfl
  · cases h
/-- a double that is no NaN -/
def bw_num {α : Type} (v : UInt64) (r : Option α) : Option α := if v &&& 0x7fffffffffffffff ≤ 0x7ff0000000000000 then r else none
theorem bw_num_e {α : Type} {v : UInt64} {r : Option α} {x : α} (h : bw_num v r = some x) : vf_n64 v ∧ r = some x := by
  unfold bw_num at h
  split at h
  · rename_i h2
    exact ⟨h2, h⟩
  · cases h
/-- how far a loop may go: far above what any needs -/
def bw_fu : Nat := 5000
