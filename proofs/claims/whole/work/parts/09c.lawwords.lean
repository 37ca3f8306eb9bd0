/-! ===== the law: words, its world, the script (printed by law.py) ===== -/
set_option maxRecDepth 100000 in
theorem l_L_100 : (Jvm.Cond.methodLink "BufferLoansLaw" (100 : Nat) ({ cls := "BufferLoansModel", name := "rank", desc := "(II)I" } : Jvm.MethodName)) ∈ bw_L := bw_memT 855 rfl rfl
set_option maxRecDepth 100000 in
theorem l_L_101 : (Jvm.Cond.methodLink "BufferLoansLaw" (101 : Nat) ({ cls := "BufferLoansLaw", name := "set", desc := "(LBufferLoans;II[J)I" } : Jvm.MethodName)) ∈ bw_L := bw_memT 564 rfl rfl
set_option maxRecDepth 100000 in
theorem l_L_103 : (Jvm.Cond.methodLink "BufferLoansLaw" (103 : Nat) ({ cls := "BufferLoansModel", name := "set", desc := "(II)I" } : Jvm.MethodName)) ∈ bw_L := bw_memT 859 rfl rfl
set_option maxRecDepth 100000 in
theorem l_L_104 : (Jvm.Cond.methodLink "BufferLoansLaw" (104 : Nat) ({ cls := "BufferLoansLaw", name := "done", desc := "(LBufferLoans;II[J)I" } : Jvm.MethodName)) ∈ bw_L := bw_memT 576 rfl rfl
set_option maxRecDepth 100000 in
theorem l_L_106 : (Jvm.Cond.methodLink "BufferLoansLaw" (106 : Nat) ({ cls := "BufferLoansModel", name := "done", desc := "(II)I" } : Jvm.MethodName)) ∈ bw_L := bw_memT 863 rfl rfl
set_option maxRecDepth 100000 in
theorem l_L_107 : (Jvm.Cond.methodLink "BufferLoansLaw" (107 : Nat) ({ cls := "BufferLoansLaw", name := "lend", desc := "(LBufferLoans;III[J)I" } : Jvm.MethodName)) ∈ bw_L := bw_memT 587 rfl rfl
set_option maxRecDepth 100000 in
theorem l_L_110 : (Jvm.Cond.methodLink "BufferLoansLaw" (110 : Nat) ({ cls := "BufferLoansModel", name := "lend", desc := "(III)I" } : Jvm.MethodName)) ∈ bw_L := bw_memT 933 rfl rfl
set_option maxRecDepth 100000 in
theorem l_L_111 : (Jvm.Cond.methodLink "BufferLoansLaw" (111 : Nat) ({ cls := "BufferLoansLaw", name := "payBack", desc := "(LBufferLoans;III[J)I" } : Jvm.MethodName)) ∈ bw_L := bw_memT 597 rfl rfl
set_option maxRecDepth 100000 in
theorem l_L_113 : (Jvm.Cond.methodLink "BufferLoansLaw" (113 : Nat) ({ cls := "BufferLoansModel", name := "payBack", desc := "(III)I" } : Jvm.MethodName)) ∈ bw_L := bw_memT 941 rfl rfl
set_option maxRecDepth 100000 in
theorem l_L_114 : (Jvm.Cond.methodLink "BufferLoansLaw" (114 : Nat) ({ cls := "BufferLoansLaw", name := "close", desc := "(LBufferLoans;I[J)I" } : Jvm.MethodName)) ∈ bw_L := bw_memT 607 rfl rfl
set_option maxRecDepth 100000 in
theorem l_L_117 : (Jvm.Cond.methodLink "BufferLoansLaw" (117 : Nat) ({ cls := "BufferLoansModel", name := "close", desc := "(I)I" } : Jvm.MethodName)) ∈ bw_L := bw_memT 945 rfl rfl
set_option maxRecDepth 100000 in
theorem l_L_118 : (Jvm.Cond.methodLink "BufferLoansLaw" (118 : Nat) ({ cls := "BufferLoansLaw", name := "append", desc := "(LBufferLoans;I[J)I" } : Jvm.MethodName)) ∈ bw_L := bw_memT 623 rfl rfl
set_option maxRecDepth 100000 in
theorem l_L_120 : (Jvm.Cond.methodLink "BufferLoansLaw" (120 : Nat) ({ cls := "BufferLoansModel", name := "append", desc := "(I)I" } : Jvm.MethodName)) ∈ bw_L := bw_memT 953 rfl rfl
set_option maxRecDepth 100000 in
theorem l_L_121 : (Jvm.Cond.methodLink "BufferLoansLaw" (121 : Nat) ({ cls := "BufferLoans", name := "clearBuffer", desc := "()I" } : Jvm.MethodName)) ∈ bw_L := bw_memT 140 rfl rfl
set_option maxRecDepth 100000 in
theorem l_L_124 : (Jvm.Cond.methodLink "BufferLoansLaw" (124 : Nat) ({ cls := "BufferLoansModel", name := "clearBuffer", desc := "()I" } : Jvm.MethodName)) ∈ bw_L := bw_memT 957 rfl rfl
set_option maxRecDepth 100000 in
theorem l_L_125 : (Jvm.Cond.methodLink "BufferLoansLaw" (125 : Nat) ({ cls := "BufferLoans", name := "firstError", desc := "()I" } : Jvm.MethodName)) ∈ bw_L := bw_memT 152 rfl rfl
set_option maxRecDepth 100000 in
theorem l_L_128 : (Jvm.Cond.methodLink "BufferLoansLaw" (128 : Nat) ({ cls := "BufferLoansModel", name := "firstError", desc := "()I" } : Jvm.MethodName)) ∈ bw_L := bw_memT 961 rfl rfl
set_option maxRecDepth 100000 in
theorem l_L_129 : (Jvm.Cond.methodLink "BufferLoansLaw" (129 : Nat) ({ cls := "BufferLoansLaw", name := "openAll", desc := "(LBufferLoans;[J)I" } : Jvm.MethodName)) ∈ bw_L := bw_memT 636 rfl rfl
set_option maxRecDepth 100000 in
theorem l_L_132 : (Jvm.Cond.methodLink "BufferLoansLaw" (132 : Nat) ({ cls := "BufferLoansModel", name := "openAll", desc := "()I" } : Jvm.MethodName)) ∈ bw_L := bw_memT 989 rfl rfl
set_option maxRecDepth 100000 in
theorem l_L_133 : (Jvm.Cond.methodLink "BufferLoansLaw" (133 : Nat) ({ cls := "BufferLoansLaw", name := "undo", desc := "(LBufferLoans;[J)I" } : Jvm.MethodName)) ∈ bw_L := bw_memT 662 rfl rfl
set_option maxRecDepth 100000 in
theorem l_L_135 : (Jvm.Cond.methodLink "BufferLoansLaw" (135 : Nat) ({ cls := "BufferLoansModel", name := "undo", desc := "()I" } : Jvm.MethodName)) ∈ bw_L := bw_memT 993 rfl rfl
set_option maxRecDepth 100000 in
theorem l_L_136 : (Jvm.Cond.methodLink "BufferLoansLaw" (136 : Nat) ({ cls := "BufferLoansLaw", name := "project", desc := "(LBufferLoans;II[J)I" } : Jvm.MethodName)) ∈ bw_L := bw_memT 675 rfl rfl
set_option maxRecDepth 100000 in
theorem l_L_138 : (Jvm.Cond.methodLink "BufferLoansLaw" (138 : Nat) ({ cls := "BufferLoansModel", name := "project", desc := "(II)I" } : Jvm.MethodName)) ∈ bw_L := bw_memT 997 rfl rfl
set_option maxRecDepth 100000 in
theorem l_L_139 : (Jvm.Cond.methodLink "BufferLoansLaw" (139 : Nat) ({ cls := "BufferLoansLaw", name := "task", desc := "(LBufferLoans;III[J)I" } : Jvm.MethodName)) ∈ bw_L := bw_memT 683 rfl rfl
set_option maxRecDepth 100000 in
theorem l_L_141 : (Jvm.Cond.methodLink "BufferLoansLaw" (141 : Nat) ({ cls := "BufferLoansModel", name := "task", desc := "(III)I" } : Jvm.MethodName)) ∈ bw_L := bw_memT 1017 rfl rfl
set_option maxRecDepth 100000 in
theorem l_L_142 : (Jvm.Cond.methodLink "BufferLoansLaw" (142 : Nat) ({ cls := "BufferLoansLaw", name := "loan", desc := "(LBufferLoans;II[J)I" } : Jvm.MethodName)) ∈ bw_L := bw_memT 691 rfl rfl
set_option maxRecDepth 100000 in
theorem l_L_144 : (Jvm.Cond.methodLink "BufferLoansLaw" (144 : Nat) ({ cls := "BufferLoansModel", name := "loan", desc := "(II)I" } : Jvm.MethodName)) ∈ bw_L := bw_memT 1025 rfl rfl
set_option maxRecDepth 100000 in
theorem l_L_145 : (Jvm.Cond.methodLink "BufferLoansLaw" (145 : Nat) ({ cls := "BufferLoansLaw", name := "owed", desc := "(LBufferLoans;II[J)I" } : Jvm.MethodName)) ∈ bw_L := bw_memT 700 rfl rfl
set_option maxRecDepth 100000 in
theorem l_L_147 : (Jvm.Cond.methodLink "BufferLoansLaw" (147 : Nat) ({ cls := "BufferLoansModel", name := "owed", desc := "(II)I" } : Jvm.MethodName)) ∈ bw_L := bw_memT 1029 rfl rfl
set_option maxRecDepth 100000 in
theorem l_L_148 : (Jvm.Cond.methodLink "BufferLoansLaw" (148 : Nat) ({ cls := "BufferLoansLaw", name := "lender", desc := "(LBufferLoans;II[J)I" } : Jvm.MethodName)) ∈ bw_L := bw_memT 707 rfl rfl
set_option maxRecDepth 100000 in
theorem l_L_150 : (Jvm.Cond.methodLink "BufferLoansLaw" (150 : Nat) ({ cls := "BufferLoansModel", name := "lender", desc := "(II)I" } : Jvm.MethodName)) ∈ bw_L := bw_memT 1033 rfl rfl
set_option maxRecDepth 100000 in
theorem l_L_151 : (Jvm.Cond.methodLink "BufferLoansLaw" (151 : Nat) ({ cls := "BufferLoansLaw", name := "count", desc := "(LBufferLoans;I[J)I" } : Jvm.MethodName)) ∈ bw_L := bw_memT 715 rfl rfl
set_option maxRecDepth 100000 in
theorem l_L_153 : (Jvm.Cond.methodLink "BufferLoansLaw" (153 : Nat) ({ cls := "BufferLoansModel", name := "count", desc := "(I)I" } : Jvm.MethodName)) ∈ bw_L := bw_memT 1041 rfl rfl
set_option maxRecDepth 100000 in
theorem l_L_154 : (Jvm.Cond.methodLink "BufferLoansLaw" (154 : Nat) ({ cls := "BufferLoansLaw", name := "setting", desc := "(LBufferLoans;I[J)I" } : Jvm.MethodName)) ∈ bw_L := bw_memT 723 rfl rfl
set_option maxRecDepth 100000 in
theorem l_L_156 : (Jvm.Cond.methodLink "BufferLoansLaw" (156 : Nat) ({ cls := "BufferLoansModel", name := "setting", desc := "(I)I" } : Jvm.MethodName)) ∈ bw_L := bw_memT 1057 rfl rfl
set_option maxRecDepth 100000 in
theorem l_L_157 : (Jvm.Cond.methodLink "BufferLoansLaw" (157 : Nat) ({ cls := "BufferLoansLaw", name := "ifDone", desc := "(LBufferLoans;III[J)I" } : Jvm.MethodName)) ∈ bw_L := bw_memT 730 rfl rfl
set_option maxRecDepth 100000 in
theorem l_L_159 : (Jvm.Cond.methodLink "BufferLoansLaw" (159 : Nat) ({ cls := "BufferLoansModel", name := "ifDone", desc := "(III)I" } : Jvm.MethodName)) ∈ bw_L := bw_memT 1061 rfl rfl
set_option maxRecDepth 100000 in
theorem l_L_160 : (Jvm.Cond.methodLink "BufferLoansLaw" (160 : Nat) ({ cls := "BufferLoansLaw", name := "bears", desc := "(LBufferLoans;I[J)I" } : Jvm.MethodName)) ∈ bw_L := bw_memT 738 rfl rfl
set_option maxRecDepth 100000 in
theorem l_L_162 : (Jvm.Cond.methodLink "BufferLoansLaw" (162 : Nat) ({ cls := "BufferLoansModel", name := "bears", desc := "(I)I" } : Jvm.MethodName)) ∈ bw_L := bw_memT 1077 rfl rfl
set_option maxRecDepth 100000 in
theorem l_L_163 : (Jvm.Cond.methodLink "BufferLoansLaw" (163 : Nat) ({ cls := "BufferLoans", name := "weakest", desc := "()I" } : Jvm.MethodName)) ∈ bw_L := bw_memT 195 rfl rfl
set_option maxRecDepth 100000 in
theorem l_L_166 : (Jvm.Cond.methodLink "BufferLoansLaw" (166 : Nat) ({ cls := "BufferLoansModel", name := "weakest", desc := "()I" } : Jvm.MethodName)) ∈ bw_L := bw_memT 1086 rfl rfl
set_option maxRecDepth 100000 in
theorem l_L_167 : (Jvm.Cond.methodLink "BufferLoansLaw" (167 : Nat) ({ cls := "BufferLoansLaw", name := "bestRule", desc := "(LBufferLoans;II[J)I" } : Jvm.MethodName)) ∈ bw_L := bw_memT 745 rfl rfl
set_option maxRecDepth 100000 in
theorem l_L_169 : (Jvm.Cond.methodLink "BufferLoansLaw" (169 : Nat) ({ cls := "BufferLoansModel", name := "bestRule", desc := "(II)I" } : Jvm.MethodName)) ∈ bw_L := bw_memT 1094 rfl rfl
set_option maxRecDepth 100000 in
theorem l_L_170 : (Jvm.Cond.methodLink "BufferLoansLaw" (170 : Nat) ({ cls := "BufferLoans", name := "lateShare", desc := "()D" } : Jvm.MethodName)) ∈ bw_L := bw_memT 231 rfl rfl
set_option maxRecDepth 100000 in
theorem l_L_174 : (Jvm.Cond.methodLink "BufferLoansLaw" (174 : Nat) ({ cls := "BufferLoansModel", name := "lateShare", desc := "()D" } : Jvm.MethodName)) ∈ bw_L := bw_memT 1106 rfl rfl
set_option maxRecDepth 100000 in
theorem l_L_175 : (Jvm.Cond.methodLink "BufferLoansLaw" (175 : Nat) ({ cls := "BufferLoans", name := "digest", desc := "()J" } : Jvm.MethodName)) ∈ bw_L := bw_memT 246 rfl rfl
set_option maxRecDepth 100000 in
theorem l_L_179 : (Jvm.Cond.methodLink "BufferLoansLaw" (179 : Nat) ({ cls := "BufferLoansModel", name := "digest", desc := "()J" } : Jvm.MethodName)) ∈ bw_L := bw_memT 1114 rfl rfl
set_option maxRecDepth 100000 in
theorem l_L_86 : (Jvm.Cond.methodLink "BufferLoansLaw" (86 : Nat) ({ cls := "BufferLoansLaw", name := "open", desc := "(LBufferLoans;II[J)I" } : Jvm.MethodName)) ∈ bw_L := bw_memT 407 rfl rfl
set_option maxRecDepth 100000 in
theorem l_L_91 : (Jvm.Cond.methodLink "BufferLoansLaw" (91 : Nat) ({ cls := "BufferLoansModel", name := "open", desc := "(II)I" } : Jvm.MethodName)) ∈ bw_L := bw_memT 814 rfl rfl
set_option maxRecDepth 100000 in
theorem l_L_92 : (Jvm.Cond.methodLink "BufferLoansLaw" (92 : Nat) ({ cls := "BufferLoansModel", name := "thrown", desc := "()I" } : Jvm.MethodName)) ∈ bw_L := bw_memT 810 rfl rfl
set_option maxRecDepth 100000 in
theorem l_L_95 : (Jvm.Cond.methodLink "BufferLoansLaw" (95 : Nat) ({ cls := "BufferLoansLaw", name := "plan", desc := "(LBufferLoans;II[J)I" } : Jvm.MethodName)) ∈ bw_L := bw_memT 517 rfl rfl
set_option maxRecDepth 100000 in
theorem l_L_97 : (Jvm.Cond.methodLink "BufferLoansLaw" (97 : Nat) ({ cls := "BufferLoansModel", name := "plan", desc := "(II)I" } : Jvm.MethodName)) ∈ bw_L := bw_memT 839 rfl rfl
set_option maxRecDepth 100000 in
theorem l_L_98 : (Jvm.Cond.methodLink "BufferLoansLaw" (98 : Nat) ({ cls := "BufferLoansLaw", name := "rank", desc := "(LBufferLoans;II[J)I" } : Jvm.MethodName)) ∈ bw_L := bw_memT 552 rfl rfl
def bw_lW (cy : Nat → ClassId) (b : Nat → Nat → Nat) (a : Nat → Nat) (o : Nat) (d : bw_A2) (t : bw_A2) (sl : bw_A3) (hn : Int32) (hs : Int32) (cs : bw_A1) (ln : Int32) (rp : Int32) (rn : Int32) (rt : Int32) (z : bw_A1) (rows : bw_A1) (asd : bw_A1) (sm : Int32) (buf : bw_A1) (bm : Int32) (th : Int32) (od : bw_A1) (om : Int32) (ow : Int32) (ca : Int32) (bo : Int32) (la : Int32) (pl : Int32) (to : Int32) (rd : bw_A1) (hh : Int64) (ou : (Nat → Int64)) : va_W := bw_xW cy b d t sl hn hs cs ln rp rn rt ++ (bw_oW cy o ou ++ (bw_mW cy a z rows asd sm buf bm th od om ow ca bo la pl to rd hh ++ []))
theorem bw_pl_x (cy : Nat → ClassId) (b : Nat → Nat → Nat) (a : Nat → Nat) (o : Nat) (d : bw_A2) (t : bw_A2) (sl : bw_A3) (hn : Int32) (hs : Int32) (cs : bw_A1) (ln : Int32) (rp : Int32) (rn : Int32) (rt : Int32) (z : bw_A1) (rows : bw_A1) (asd : bw_A1) (sm : Int32) (buf : bw_A1) (bm : Int32) (th : Int32) (od : bw_A1) (om : Int32) (ow : Int32) (ca : Int32) (bo : Int32) (la : Int32) (pl : Int32) (to : Int32) (rd : bw_A1) (hh : Int64) (ou : (Nat → Int64)) : (bw_lW cy b a o d t sl hn hs cs ln rp rn rt z rows asd sm buf bm th od om ow ca bo la pl to rd hh ou).Perm (bw_xW cy b d t sl hn hs cs ln rp rn rt ++ (bw_oW cy o ou ++ (bw_mW cy a z rows asd sm buf bm th od om ow ca bo la pl to rd hh ++ []))) := List.Perm.refl _
theorem bw_pl_m (cy : Nat → ClassId) (b : Nat → Nat → Nat) (a : Nat → Nat) (o : Nat) (d : bw_A2) (t : bw_A2) (sl : bw_A3) (hn : Int32) (hs : Int32) (cs : bw_A1) (ln : Int32) (rp : Int32) (rn : Int32) (rt : Int32) (z : bw_A1) (rows : bw_A1) (asd : bw_A1) (sm : Int32) (buf : bw_A1) (bm : Int32) (th : Int32) (od : bw_A1) (om : Int32) (ow : Int32) (ca : Int32) (bo : Int32) (la : Int32) (pl : Int32) (to : Int32) (rd : bw_A1) (hh : Int64) (ou : (Nat → Int64)) : (bw_lW cy b a o d t sl hn hs cs ln rp rn rt z rows asd sm buf bm th od om ow ca bo la pl to rd hh ou).Perm (bw_mW cy a z rows asd sm buf bm th od om ow ca bo la pl to rd hh ++ (bw_xW cy b d t sl hn hs cs ln rp rn rt ++ (bw_oW cy o ou ++ []))) := bw_mv2 _ _ _ _
theorem bw_pl_h (cy : Nat → ClassId) (b : Nat → Nat → Nat) (a : Nat → Nat) (o : Nat) (d : bw_A2) (t : bw_A2) (sl : bw_A3) (hn : Int32) (hs : Int32) (cs : bw_A1) (ln : Int32) (rp : Int32) (rn : Int32) (rt : Int32) (z : bw_A1) (rows : bw_A1) (asd : bw_A1) (sm : Int32) (buf : bw_A1) (bm : Int32) (th : Int32) (od : bw_A1) (om : Int32) (ow : Int32) (ca : Int32) (bo : Int32) (la : Int32) (pl : Int32) (to : Int32) (rd : bw_A1) (hh : Int64) (ou : (Nat → Int64)) : (bw_lW cy b a o d t sl hn hs cs ln rp rn rt z rows asd sm buf bm th od om ow ca bo la pl to rd hh ou).Perm ((bw_xW cy b d t sl hn hs cs ln rp rn rt ++ (bw_oW cy o ou ++ [])) ++ (bw_mW cy a z rows asd sm buf bm th od om ow ca bo la pl to rd hh ++ [])) := by
  rw [List.append_assoc, List.append_assoc, List.nil_append]
  exact List.Perm.refl _
section BWLW
variable {p : Program} {l : Launch} {e : Env} {R : Room} {s : State} {m : MethodId} {args : Array Value} {below : List Frame} {meth : Method} {c : Code} {H : Heap} {locs : List Loc} {cells slots : Nat} {Q : State → Prop}
variable {cc : ByteArray} {pc : Nat} {ls : Array Slot} {rest : List Value} {G : va_G} {A : Nat → Prop} {ws : va_W}
theorem bw_scr (hx : p.tables.exec = Jvm.exec) (hb : c.code = cc) {bs L : Nat} {xs : Nat → Int32} (hX : va_X bs L xs s s.heap) (hbl : bs < s.heap.size) (hbA : ¬ A bs) (hI : bw_I G A s.heap ws H locs) {i v : Int32} (hv : bw_rd L xs i = some v) (hdg : decode cc pc = .ok (.iaload, 1)) (kk : W p l e R s m args below meth c H locs cells slots Q (F0 m (pc + 1) ls (.int v :: rest))) : W p l e R s m args below meth c H locs cells slots Q (F0 m pc ls (.int i :: .ref bs :: rest)) := by
  obtain ⟨h1, rfl⟩ := bw_rd_e hv
  exact va_sld hx hb hX hbl hbA hI.2.2.1 h1 hdg kk
end BWLW
/-! THE CLAIM OUT OF ONE WALK OF THE LAW'S BODY. Your part is whole_start (and what it stands on); all else here is the same for every law, but numbers. -/
def R_law : String := "BufferLoansLaw"
def lw_P (b : Addr) (xs : List Int32) (args : Array Value) (s : State) : Prop := args = #[.ref b] ∧ s.IntsAt b xs ∧ xs.length ≤ 2048 ∧ (Jvm.Cond.and given_1 narrow_1).before args s = true
/-- what a walk over the start with the record d0 says of its end, said of the start itself -/
theorem lw_closed {s t : State} {o : Outcome} {d0 : Drawn} {L : List Loc} {k n : Nat} (hd0 : s.drawn.sameBut d0 lw_cs) (hv : ∃ v, o = .returned v) (hW : (s.setDrawn d0).WarmedH t.vm) (hs : (s.setDrawn d0).sameButNew ({ t with vm := s.vm } : State) L k n) : State.butDraws s t lw_cs (fun t1 => Framed s o t1 L k n) := by
  have h2 : t.drawn = d0 := congrArg State.drawn hs.1
  refine ⟨⟨hv, hW, State.sameButNew.setDrawn hs s.drawn⟩, ?_, by decide⟩
  rw [h2]
  exact hd0
def lw_Q (_ : Array Value) (s : State) (o : Outcome) (t : State) : Prop := o = .returned (some (.int 1)) ∧ State.butDraws s t lw_cs (fun t1 => Framed s o t1 [] 601024 7293034)
def lw_Z (below : List Frame) (a : Array Value) (s : State) : State → Prop := fun t => ∃ o, t.status = .running ∧ Ended t below o ∧ lw_Q a s o t
/-- the law's own end, with 1 on the stack, nothing written that was there before, its room as the claim has it; d0: the record of draws at this point (at the entry s.drawn: begin with 'refine W.base ?_' and 'have hd0 := Drawn.sameBut.refl s.drawn lw_cs') -/
theorem lw_ret {p : Program} {l : Launch} {e : Env} {s : State} {m : MethodId} {below : List Frame} {meth : Method} {c : Code} {b : Nat} {d0 : Drawn} (hd0 : s.drawn.sameBut d0 lw_cs) (hx : p.tables.exec = Jvm.exec) (hb : c.code = code) (hr : meth.sig.returnType = ret) (hlocks : meth.locks = false) {pc : Nat} {H : Heap} {ls : Array Slot} (hdg : decode code pc = .ok (.ireturn, 1)) : W p l e room_1 (s.setDrawn d0) m #[Value.ref b] below meth c H [] 601024 7293034 (lw_Z below #[Value.ref b] s) (F0 m pc ls [.int 1]) := by
  intro T hT X
  obtain ⟨fs, hret, hrun, hended, hW, hframe⟩ := X.leave (v := some (.int 1)) (hlocks := hlocks) (fun h => by rw [hr] at h; cases h)
  have hmeth' : T.vm.method? m = some meth := X.method'
  refine ⟨T.setFrames fs, ?_, .returned (some (.int 1)), hrun, hended, rfl, lw_closed hd0 ⟨_, rfl⟩ hW hframe⟩
  jvm_step X.here [X.here.top, hx, hb, hdg, hmeth', hr, ret, narrow_b1]
  (try refine ⟨rfl, ?_⟩); (try refine ⟨rfl, ?_⟩)
  first | (intro acts; rw [hret _ acts rfl rfl rfl]) | rw [hret _ _ rfl rfl rfl]
  exact Steps.refl _
/-- what holds at the law's entry: the machine, the code, the tables' words (any of lw_tbl by 'hts w (by decide +kernel)'), the script of L ints xs at the cell b, what the Statement gives of the start (any of its parts by flat_of_before) -/
def lw_At (p : Program) (s : State) (m : MethodId) (meth : Method) (c : Code) (b L : Nat) (xs : Nat → Int32) : Prop :=
  p.tables.exec = Jvm.exec ∧ c.code = code ∧ meth.sig.returnType = ret ∧ c.maxLocals = 9 ∧ s.vm.findClass R_law = some m.cls ∧ (∀ w ∈ lw_tbl, w.before #[Value.ref b] s = true) ∧ va_X b L xs s s.heap ∧ b < s.heap.size ∧ meth.locks = false ∧ (Jvm.Cond.and given_1 narrow_1).before #[Value.ref b] s = true
