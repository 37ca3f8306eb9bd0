/- needs: 53.plan2 -/
/-! ===== texts: whole plans ===== -/
section
variable {buf : Nat → Int32} {bm : Int32} {C : List Int}
theorem bplns_1 : ∀ (l : List Int) (s : bSt), (bplns s l).1 = s.1 := by
  intro l
  induction l with
  | nil => intro s; rfl
  | cons x xs ih => intro s; exact ih _
theorem bopns_1 : ∀ (A : List (Int × Int × List Int)) (s : bSt), (bopns s A).1 = s.1 + A.length := by
  intro A
  induction A with
  | nil => intro s; rfl
  | cons a as ih =>
    intro s
    show (bopns (bplns (bopn s a.1 a.2.1) a.2.2) as).1 = _
    rw [ih, bplns_1, List.length_cons]
    show s.1 + 1 + as.length = _
    omega
theorem l_isPlan (h : bTX buf bm C) : ∀ (n : Nat) (suf pre : List Int) (rd : Nat → Int32) (A : List (Int × Int × List Int)) (w : Int) (u : Nat) (σ : bSt → bSt), C = pre ++ suf → suf.length + 1 < n → A.length ≤ pre.length → bRA rd A → (∀ a ∈ A, bgA a) → w ≠ -1 → bstop 2 w suf → (∀ c cs, suf = c :: cs → ¬(c = 43 ∧ u < 8)) → (∀ t, brun C 0 (-1) t = (pre.length + (brun suf 2 w u).1, (brun suf 2 w u).2)) → (∀ s, bopT C 0 0 s = bopT suf 0 w (σ s) ∧ bpln (σ s) ((σ s).1 - 1) w = bopns s A) → ∃ (A' : List (Int × Int × List Int)) (rd' : Nat → Int32) (ok pl' to' : Int32), lX6_isPlan_15 buf bm n (iv pre.length) (iv A.length) rd 1 = some (ok, pl', to', rd') ∧ ((ok = 0 ∧ ∀ t, pl' = iv (brun C 0 (-1) t).1 ∧ ¬bwhole C t) ∨ (ok = 1 ∧ to' = iv A'.length ∧ bRA rd' A' ∧ (∀ a ∈ A', bgA a) ∧ (∀ t, bwhole C t) ∧ ∀ s, bopT C 0 0 s = bopns s A')) := by
  have hlen := h.2.1
  intro n
  induction n with
  | zero => intro suf pre rd A w u σ hC hn; omega
  | succ n ih =>
    intro suf pre rd A w u σ hC hn hA hR hG hw hst h43 hrun hop
    have hcl : C.length = pre.length + suf.length := by rw [hC]; simp
    show ∃ (A' : List (Int × Int × List Int)) (rd' : Nat → Int32) (ok pl' to' : Int32), bX6_isPlan_15 (lX6_isPlan_15 buf bm n) buf bm (iv pre.length) (iv A.length) rd 1 = some (ok, pl', to', rd') ∧ _
    unfold bX6_isPlan_15 jX6_isPlan_36 jX6_isPlan_55
    rw [if_neg (show ¬(1 : Int32) = 0 by decide)]
    by_cases k1 : ∃ cs, suf = 59 :: cs
    · obtain ⟨cs, hs⟩ := k1
      subst hs
      rw [List.length_cons] at hn hcl
      have ht := f_takes_yes h hC
      have ht' : fX6_takes buf bm (iv pre.length) 59 = some (1, iv ((pre.length + 1 : Nat) : Int)) := ht
      rw [ht', bw_b2s, if_neg (show ¬(1 : Int32) = 0 by decide)]
      have hC2 : C = (pre ++ [59]) ++ cs := by rw [hC]; simp
      have hl2 : (pre ++ [59]).length = pre.length + 1 := by simp
      obtain ⟨con, rest, rd2, ok, to2, r1, r2, r3⟩ := f_readProject h hC2 (A := A) (by omega) hR hG
      rw [hl2] at r2
      rw [r2, bw_b4s]
      have hs1 : bstep 2 w u 59 = (1, 0, -1, u) := by
        unfold bstep
        rw [if_neg (by omega), if_neg hw, if_neg (by omega), if_neg (by omega), if_neg (by omega), if_pos ⟨rfl, rfl⟩]
      have hrun2 : ∀ t, brun C 0 (-1) t = (pre.length + ((brun cs 0 (-1) u).1 + 1), (brun cs 0 (-1) u).2) := fun t => by
        rw [hrun, brun_c, hs1, if_pos rfl]
      have hop2 : ∀ s, bopT C 0 0 s = bopT cs 0 0 (bopns s A) := fun s => by
        rw [(hop s).1, bopT_c, if_neg (by omega), if_neg (by omega), (hop s).2]
      rcases r3 with ⟨e1, e2⟩ | ⟨e1, r, b, nw, w2, e3, e4, e5, e6, e7, e8, e9, e10, e11⟩
      · subst e1
        cases n with
        | zero => omega
        | succ n =>
          refine ⟨A, rd2, 0, iv ((pre.length + 1 + con.length : Nat) : Int), to2, ?_, .inl ⟨rfl, fun t => ?_⟩⟩
          · show bX6_isPlan_15 (lX6_isPlan_15 buf bm n) buf bm _ _ _ 0 = _
            unfold bX6_isPlan_15 jX6_isPlan_36 jX6_isPlan_55
            rw [if_pos rfl, if_pos rfl]
          · have e2' := e2 u
            unfold bwhole
            rw [hrun2 t]
            refine ⟨?_, fun q => e2'.2 ⟨q.2.1, q.2.2⟩⟩
            dsimp only
            rw [e2'.1]
            exact congrArg iv (by omega)
      · subst e1 e3
        have hcl3 : cs.length = con.length + rest.length := by rw [r1]; simp
        have hpl : (pre ++ [59] ++ con).length = pre.length + 1 + con.length := by simp; omega
        have hcon : 0 < con.length := List.length_pos_iff.mpr e10
        have := ih rest (pre ++ [59] ++ con) rd2 (A ++ [(r, b, nw ++ [w2])]) w2 (nw.length + 1) (fun s => bplns (bopn (bopns s A) r b) nw) (by rw [hC2, r1]; simp) (by omega) (by rw [len_snoc, hpl]; omega) e4 e5 e7 e8 e9 (fun t => by
          rw [hrun2 t, e6 u, hpl]
          congr 1
          omega) (fun s => ⟨by rw [hop2 s, e11], by
          rw [bopns_app]
          show bpln (bplns (bopn (bopns s A) r b) nw) _ w2 = bplns (bopn (bopns s A) r b) (nw ++ [w2])
          rw [bplns_app]
          rfl⟩)
        rw [hpl, len_snoc] at this
        exact this
    · have ht := f_takes_no h (c := 59) (by omega) hC (fun e es q1 q2 => k1 ⟨es, by rw [q1, q2]⟩)
      have ht' : fX6_takes buf bm (iv pre.length) 59 = some (0, iv pre.length) := ht
      rw [ht', bw_b2s, if_pos rfl, if_neg (show ¬(1 : Int32) = 0 by decide)]
      have hstop : brun suf 2 w u = (0, 2, w, u) := brun_stop hst (fun c cs q => .inr ⟨by omega, by omega, fun x => h43 c cs q ⟨x.2.1, x.2.2⟩, fun x => k1 ⟨cs, by rw [q, x.2]⟩⟩)
      rw [h.1, ite_iv (r32n (by omega)) (r32n (by omega))]
      by_cases q : suf = []
      · subst q
        rw [List.length_nil] at hcl
        rw [if_pos (by omega)]
        refine ⟨A, rd, 1, _, _, rfl, .inr ⟨rfl, rfl, hR, hG, fun t => ?_, fun s => ?_⟩⟩
        · unfold bwhole
          rw [hrun t, hstop]
          exact ⟨by dsimp only; omega, rfl, hw⟩
        · rw [(hop s).1, ← (hop s).2]
          rfl
      · have hpos : 0 < suf.length := List.length_pos_iff.mpr q
        rw [if_neg (by omega)]
        refine ⟨A, rd, 0, _, _, rfl, .inl ⟨rfl, fun t => ?_⟩⟩
        unfold bwhole
        rw [hrun t, hstop]
        exact ⟨by rw [Nat.add_zero], fun x => by have := x.1; dsimp only at this; omega⟩
theorem f_isPlan (h : bTX buf bm C) (pl to : Int32) (rd : Nat → Int32) : ∃ (A' : List (Int × Int × List Int)) (rd' : Nat → Int32) (ok pl' to' : Int32), fX6_isPlan buf bm pl to rd = some (ok, pl', to', rd') ∧ ((ok = 0 ∧ ∀ t, pl' = iv (brun C 0 (-1) t).1 ∧ ¬bwhole C t) ∨ (ok = 1 ∧ to' = iv A'.length ∧ bRA rd' A' ∧ (∀ a ∈ A', bgA a) ∧ (∀ t, bwhole C t) ∧ ∀ s, bopT C 0 0 s = bopns s A')) := by
  have hlen := h.2.1
  obtain ⟨con, rest, rd2, ok, to2, r1, r2, r3⟩ := f_readProject h (pre := []) (suf := C) rfl (A := []) (by simp) (rd := rd) (fun k hk => by simp at hk) (fun a ha => by cases ha)
  have r2' : fX6_readProject buf bm 0 0 rd = some (ok, iv ((con.length : Nat) : Int), to2, rd2) := by
    rw [List.length_nil, Nat.zero_add] at r2
    exact r2
  unfold fX6_isPlan
  rw [r2', bw_b4s]
  rcases r3 with ⟨e1, e2⟩ | ⟨e1, r, b, nw, w2, e3, e4, e5, e6, e7, e8, e9, e10, e11⟩
  · subst e1
    refine ⟨[], rd2, 0, iv ((con.length : Nat) : Int), to2, ?_, .inl ⟨rfl, fun t => ?_⟩⟩
    · show bX6_isPlan_15 (lX6_isPlan_15 buf bm 4999) buf bm _ _ _ 0 = _
      unfold bX6_isPlan_15 jX6_isPlan_36 jX6_isPlan_55
      rw [if_pos rfl, if_pos rfl]
    · have e2' := e2 t
      unfold bwhole
      exact ⟨by rw [e2'.1], fun q => e2'.2 ⟨q.2.1, q.2.2⟩⟩
  · subst e1 e3
    have hcl3 : C.length = con.length + rest.length := by rw [r1]; simp
    have hcon : 0 < con.length := List.length_pos_iff.mpr e10
    have := l_isPlan h bw_fu rest con rd2 [(r, b, nw ++ [w2])] w2 (nw.length + 1) (fun s => bplns (bopn s r b) nw) r1 (by unfold bw_fu; omega) (by simp; omega) e4 e5 e7 e8 e9 e6 (fun s => ⟨e11 s, by
      show bpln (bplns (bopn s r b) nw) _ w2 = bplns (bopn s r b) (nw ++ [w2])
      rw [bplns_app]
      rfl⟩)
    exact this
theorem op_firstError (h : bTX buf bm C) {cs : Nat → Int32} {ln : Int32} (hx : bTX cs ln C) {rp rn rt : Int32} {t : Nat} (ht : rt = iv t) (ht8 : t ≤ 8) (th pl to : Int32) (rd : Nat → Int32) : bOk (fX5_firstError cs ln rp rn rt) fun c => bOk (fX6_firstError buf bm th pl to rd) fun m => c.1 = m.1 ∧ m.2.1 = 0 ∧ ∃ t', t' ≤ 8 ∧ c.2.2.2 = iv (t' : Nat) := by
  obtain ⟨hq, hle⟩ := brun_ok C 0 (-1) t ⟨by omega, by omega, by omega, ht8⟩
  unfold fX5_firstError fX6_firstError
  rw [x_fault hx ht ht8, bw_b4s]
  refine bOk_s ?_
  obtain ⟨A', rd', ok, pl', to', e1, e2⟩ := f_isPlan h pl to rd
  rw [e1, bw_b4s]
  rcases e2 with ⟨q1, q2⟩ | ⟨q1, q2, q3, q4, q5, q6⟩
  · subst q1
    rw [if_pos rfl]
    exact bOk_s ⟨(q2 t).1.symm, rfl, _, hq.2.2.2, rfl⟩
  · subst q1
    rw [if_neg (by decide)]
    refine bOk_s ⟨?_, rfl, _, hq.2.2.2, rfl⟩
    dsimp only
    rw [(q5 t).1, h.1]
end
