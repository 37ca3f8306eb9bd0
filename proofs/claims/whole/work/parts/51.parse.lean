/- needs: 50.text -/
/-! ===== texts: the reference reads them ===== -/
/-- what a text does to a state, as the class does it -/
def bopT : List Int → Int → Int → bSt → bSt
  | [], _, n, s => bpln s (s.1 - 1) n
  | c :: cs, r, n, s => if 48 ≤ c ∧ c ≤ 57 then bopT cs r (n * 10 + (c - 48)) s else if c = 58 then (if r = 0 then bopT cs n 0 s else bopT cs 0 0 (bopn s r n)) else bopT cs r 0 (bpln s (s.1 - 1) n)
theorem bopT_c (c : Int) (cs : List Int) (r n : Int) (s : bSt) : bopT (c :: cs) r n s = if 48 ≤ c ∧ c ≤ 57 then bopT cs r (n * 10 + (c - 48)) s else if c = 58 then (if r = 0 then bopT cs n 0 s else bopT cs 0 0 (bopn s r n)) else bopT cs r 0 (bpln s (s.1 - 1) n) := rfl
/-- tasks planned, projects opened, as the reference does it -/
def bplns (s : bSt) : List Int → bSt
  | [] => s
  | v :: vs => bplns (bpln s (s.1 - 1) v) vs
def bopns (s : bSt) : List (Int × Int × List Int) → bSt
  | [] => s
  | a :: as => bopns (bplns (bopn s a.1 a.2.1) a.2.2) as
theorem bplns_app (l m : List Int) : ∀ s, bplns s (l ++ m) = bplns (bplns s l) m := by
  induction l with
  | nil => intro s; rfl
  | cons x xs ih => intro s; exact ih _
theorem bopns_app (l m : List (Int × Int × List Int)) : ∀ s, bopns s (l ++ m) = bopns (bopns s l) m := by
  induction l with
  | nil => intro s; rfl
  | cons x xs ih => intro s; exact ih _
/-- the table of what was read says the first projects -/
abbrev bRA (rd : Nat → Int32) (A : List (Int × Int × List Int)) : Prop := ∀ (k : Nat) (h : k < A.length), k < 9 → rd (11 * k) = iv A[k].1 ∧ rd (11 * k + 1) = iv A[k].2.1 ∧ rd (11 * k + 2) = iv A[k].2.2.length ∧ ∀ (t : Nat) (ht : t < A[k].2.2.length), t < 8 → rd (11 * k + 3 + t) = iv A[k].2.2[t]
def bhd : List Int → Int
  | [] => 0
  | c :: _ => c
/-- no digit more is taken -/
abbrev bstop (p : Nat) (v : Int) (suf : List Int) : Prop := ∀ c cs, suf = c :: cs → ¬bdt p v c
section
variable {buf : Nat → Int32} {bm : Int32} {C : List Int}
theorem f_next (h : bTX buf bm C) {pre suf : List Int} (hC : C = pre ++ suf) : fX6_next buf bm (iv pre.length) = some (iv (bhd suf)) := by
  obtain ⟨h1, h2, h3, h4⟩ := h
  unfold fX6_next
  cases suf with
  | nil =>
    have hl : C.length = pre.length := by rw [hC]; simp
    rw [h1, ite_le (r32n (by omega)) (r32n (by omega)), if_pos (by omega)]
    rfl
  | cons c cs =>
    have hl : C.length = pre.length + (cs.length + 1) := by rw [hC]; simp
    have hg : C[pre.length]'(by omega) = c := by simp [hC]
    rw [h1, ite_le (r32n (by omega)) (r32n (by omega)), if_neg (by omega), iv_rd (by omega) (by omega) (by omega), bw_b1_s]
    have := h3 pre.length (by omega)
    rw [hg] at this
    exact congrArg some this
theorem f_takes_yes (h : bTX buf bm C) {pre cs : List Int} {c : Int} (hC : C = pre ++ c :: cs) : fX6_takes buf bm (iv pre.length) (iv c) = some (1, iv ((pre.length + 1 : Nat) : Int)) := by
  unfold fX6_takes jX6_takes_13 jX6_takes_28
  rw [f_next h hC, bw_b1_s, show bhd (c :: cs) = c from rfl, if_pos rfl, if_neg (by decide), bw_let_s, iv_succ]
  rfl
theorem f_takes_no (h : bTX buf bm C) {pre suf : List Int} {c : Int} (hc : 33 ≤ c ∧ c ≤ 126) (hC : C = pre ++ suf) (hn : ∀ e es, suf = e :: es → e ≠ c) : fX6_takes buf bm (iv pre.length) (iv c) = some (0, iv pre.length) := by
  obtain ⟨h1, h2, h3, h4⟩ := h
  have e0 : iv (pre.length : Int) + 0 = iv pre.length := by rw [show (0 : Int32) = iv 0 from rfl, iv_add, Int.add_zero]
  unfold fX6_takes jX6_takes_13 jX6_takes_28
  rw [f_next ⟨h1, h2, h3, h4⟩ hC, bw_b1_s]
  cases suf with
  | nil =>
    rw [show bhd [] = 0 from rfl, if_neg (by rw [iv_eq (by omega) (by omega) (by omega) (by omega)]; omega), if_pos rfl, bw_let_s, e0]
    rfl
  | cons e es =>
    have he := h4 e (by rw [hC]; simp)
    have := hn e es rfl
    rw [show bhd (e :: es) = e from rfl, if_neg (by rw [iv_eq (by omega) (by omega) (by omega) (by omega)]; exact this), if_pos rfl, bw_let_s, e0]
    rfl
theorem brun_dig {p : Nat} {v : Int} {t : Nat} {c : Int} {cs : List Int} (h : bdt p v c) : brun (c :: cs) p v t = ((brun cs p (bgr v (c - 48)) t).1 + 1, (brun cs p (bgr v (c - 48)) t).2) := by
  have : bstep p v t c = (1, p, bgr v (c - 48), t) := by
    unfold bstep
    rw [if_pos h.1, if_pos h.2]
  rw [brun_c, this, if_pos rfl]
/-- one turn of the loop that reads a number -/
theorem b_number {p : Nat} (hp : p < 3) {v : Int} (hv : -1 ≤ v ∧ v ≤ 99) {pl : Nat} {c : Int} (hx : fX6_next buf bm (iv pl) = some (iv c)) (hc : 0 ≤ c ∧ c ≤ 126) {n : Nat} : bX6_number_5 (lX6_number_5 buf bm (iv (bnl p)) (iv (bng p)) n) buf bm (iv (bnl p)) (iv (bng p)) (iv pl) (iv v) 1 = if bdt p v c then lX6_number_5 buf bm (iv (bnl p)) (iv (bng p)) n (iv ((pl + 1 : Nat) : Int)) (iv (bgr v (c - 48))) 1 else lX6_number_5 buf bm (iv (bnl p)) (iv (bng p)) n (iv pl) (iv v) 0 := by
  have hl : 0 ≤ bnl p ∧ bnl p ≤ 1 := by unfold bnl; split <;> omega
  have hg : 0 ≤ bng p ∧ bng p ≤ 99 := by unfold bng; split <;> (try split) <;> omega
  have hgr : -1000 ≤ bgr v (c - 48) ∧ bgr v (c - 48) ≤ 20000 := by unfold bgr; split <;> omega
  have a1 : fX6_in (iv (c - 48)) 0 9 = some (if 0 ≤ c - 48 ∧ c - 48 ≤ 9 then 1 else 0) := f_in (l := 0) (m := 9) (r32i (by omega) (by omega)) (r32i (by omega) (by omega)) (r32i (by omega) (by omega))
  have a2 : fX6_in (iv (bgr v (c - 48))) (iv (bnl p)) (iv (bng p)) = some (if bnl p ≤ bgr v (c - 48) ∧ bgr v (c - 48) ≤ bng p then 1 else 0) := f_in (r32i (by omega) (by omega)) (r32i (by omega) (by omega)) (r32i (by omega) (by omega))
  unfold bX6_number_5
  rw [if_neg (show ¬(1 : Int32) = 0 by decide), hx, bw_b1_s, bw_let_s, show (48 : Int32) = iv 48 from rfl, iv_sub]
  have e2 : (if iv v = -1 then jX6_number_36 (lX6_number_5 buf bm (iv (bnl p)) (iv (bng p)) n) buf bm (iv pl) (iv (bnl p)) (iv (bng p)) (iv v) (iv (c - 48)) (iv (c - 48)) else jX6_number_36 (lX6_number_5 buf bm (iv (bnl p)) (iv (bng p)) n) buf bm (iv pl) (iv (bnl p)) (iv (bng p)) (iv v) (iv (c - 48)) (10 * iv v + iv (c - 48))) = jX6_number_36 (lX6_number_5 buf bm (iv (bnl p)) (iv (bng p)) n) buf bm (iv pl) (iv (bnl p)) (iv (bng p)) (iv v) (iv (c - 48)) (iv (bgr v (c - 48))) := by
    rw [show (-1 : Int32) = iv (-1) from rfl, ite_iv (r32i (by omega) (by omega)) (r32i (by omega) (by omega)), show (10 : Int32) = iv 10 from rfl, iv_mul, iv_add]
    unfold bgr
    by_cases q : v = -1
    · rw [if_pos q, if_pos q]
    · rw [if_neg q, if_neg q, Int.mul_comm 10 v]
  rw [e2]
  unfold jX6_number_36 jX6_number_67 jX6_number_68 jX6_number_81 jX6_number_97
  simp only [bw_let_s]
  have ev : (iv v = 0) = (v = 0) := iv_eq (b := 0) (by omega) (by omega) (by omega) (by omega)
  rw [a1, bw_b1_s, a2, bw_b1_s, ite_10, ite_10, iv_succ, show iv (pl : Int) + 0 = iv pl by rw [show (0 : Int32) = iv 0 from rfl, iv_add, Int.add_zero]]
  by_cases c1 : 48 ≤ c ∧ c ≤ 57
  · rw [if_pos (show 0 ≤ c - 48 ∧ c - 48 ≤ 9 by omega)]
    by_cases c2 : v = 0
    · rw [if_pos (by rw [ev]; exact c2), if_neg (show ¬bdt p v c from fun q => q.2.1 c2)]
      simp
    · rw [if_neg (by rw [ev]; exact c2)]
      by_cases c3 : bnl p ≤ bgr v (c - 48) ∧ bgr v (c - 48) ≤ bng p
      · rw [if_pos c3, if_pos (show bdt p v c from ⟨c1, c2, c3⟩)]
        simp
      · rw [if_neg c3, if_neg (show ¬bdt p v c from fun q => c3 q.2.2)]
        simp
  · rw [if_neg (show ¬(0 ≤ c - 48 ∧ c - 48 ≤ 9) by omega), if_neg (show ¬bdt p v c from fun q => c1 q.1)]
    simp
/-- a number is read -/
theorem l_number (h : bTX buf bm C) {p : Nat} (hp : p < 3) : ∀ (suf pre : List Int) (n : Nat) (v : Int), C = pre ++ suf → suf.length + 1 < n → -1 ≤ v ∧ v ≤ 99 → ∃ (ds rest : List Int) (w : Int), suf = ds ++ rest ∧ lX6_number_5 buf bm (iv (bnl p)) (iv (bng p)) n (iv pre.length) (iv v) 1 = some (iv w, iv ((pre.length + ds.length : Nat) : Int)) ∧ (-1 ≤ w ∧ w ≤ 99) ∧ bstop p w rest ∧ (∀ t, brun suf p v t = (ds.length + (brun rest p w t).1, (brun rest p w t).2)) ∧ (∀ r s, bopT suf r (max v 0) s = bopT rest r (max w 0) s) ∧ (ds = [] → w = v) ∧ (ds ≠ [] → bnl p ≤ w ∧ w ≤ bng p) := by
  have hl : 0 ≤ bnl p ∧ bnl p ≤ 1 := by unfold bnl; split <;> omega
  have hg : 0 ≤ bng p ∧ bng p ≤ 99 := by unfold bng; split <;> (try split) <;> omega
  intro suf
  induction suf with
  | nil =>
    intro pre n v hC hn hv
    cases n with
    | zero => omega
    | succ n =>
      cases n with
      | zero => simp at hn
      | succ n =>
        refine ⟨[], [], v, rfl, ?_, hv, (fun c cs q => by cases q), (fun t => by rw [List.length_nil, Nat.zero_add]), (fun r s => rfl), (fun _ => rfl), fun q => absurd rfl q⟩
        have e1 := b_number hp hv (f_next h hC) (show 0 ≤ bhd [] ∧ bhd [] ≤ 126 from ⟨by show (0 : Int) ≤ 0; omega, by show (0 : Int) ≤ 126; omega⟩) (n := n + 1)
        show bX6_number_5 (lX6_number_5 buf bm (iv (bnl p)) (iv (bng p)) (n + 1)) buf bm (iv (bnl p)) (iv (bng p)) (iv pre.length) (iv v) 1 = _
        rw [e1, if_neg (show ¬bdt p v (bhd []) from fun q => absurd q.1.1 (by show ¬(48 : Int) ≤ 0; omega))]
        show bX6_number_5 (lX6_number_5 buf bm (iv (bnl p)) (iv (bng p)) n) buf bm (iv (bnl p)) (iv (bng p)) (iv pre.length) (iv v) 0 = _
        unfold bX6_number_5
        rw [if_pos rfl]
        rfl
  | cons c cs ih =>
    intro pre n v hC hn hv
    cases n with
    | zero => omega
    | succ n =>
      rw [List.length_cons] at hn
      cases n with
      | zero => omega
      | succ n =>
        have hcr := h.2.2.2 c (by rw [hC]; simp)
        have e1 := b_number hp hv (f_next h hC) (show 0 ≤ bhd (c :: cs) ∧ bhd (c :: cs) ≤ 126 from ⟨by show 0 ≤ c; omega, hcr.2⟩) (n := n + 1)
        by_cases hd : bdt p v c
        · have hg2 := hd.2.2
          obtain ⟨ds, rest, w, i1, i2, i3, i4, i5, i6, i7, i8⟩ := ih (pre ++ [c]) (n + 1) (bgr v (c - 48)) (by rw [hC]; simp) (by omega) (by omega)
          refine ⟨c :: ds, rest, w, by rw [i1]; rfl, ?_, i3, i4, fun t => ?_, fun r s => ?_, (fun q => by cases q), fun _ => ?_⟩
          · show bX6_number_5 (lX6_number_5 buf bm (iv (bnl p)) (iv (bng p)) (n + 1)) buf bm (iv (bnl p)) (iv (bng p)) (iv pre.length) (iv v) 1 = _
            rw [e1, if_pos (show bdt p v (bhd (c :: cs)) from hd)]
            show lX6_number_5 buf bm (iv (bnl p)) (iv (bng p)) (n + 1) (iv ((pre.length + 1 : Nat) : Int)) (iv (bgr v (c - 48))) 1 = _
            rw [len_snoc] at i2
            rw [i2, List.length_cons, show pre.length + 1 + ds.length = pre.length + (ds.length + 1) by omega]
          · rw [brun_dig hd, i5 t, List.length_cons]
            congr 1
            omega
          · rw [bopT_c, if_pos hd.1, ← i6 r s]
            congr 1
            have hb0 : 0 ≤ bgr v (c - 48) := by omega
            have hd1 := hd.1
            unfold bgr at hb0 ⊢
            split <;> omega
          · cases ds with
            | nil => rw [i7 rfl]; exact hg2
            | cons y ys => exact i8 (by simp)
        · refine ⟨[], c :: cs, v, rfl, ?_, hv, (fun e es q => by injection q with q1 q2; subst q1; exact hd), (fun t => by rw [List.length_nil, Nat.zero_add]), (fun r s => rfl), (fun _ => rfl), fun q => absurd rfl q⟩
          show bX6_number_5 (lX6_number_5 buf bm (iv (bnl p)) (iv (bng p)) (n + 1)) buf bm (iv (bnl p)) (iv (bng p)) (iv pre.length) (iv v) 1 = _
          rw [e1, if_neg (show ¬bdt p v (bhd (c :: cs)) from hd)]
          show bX6_number_5 (lX6_number_5 buf bm (iv (bnl p)) (iv (bng p)) n) buf bm (iv (bnl p)) (iv (bng p)) (iv pre.length) (iv v) 0 = _
          unfold bX6_number_5
          rw [if_pos rfl]
          rfl
theorem f_number (h : bTX buf bm C) {p : Nat} (hp : p < 3) {pre suf : List Int} (hC : C = pre ++ suf) : ∃ (ds rest : List Int) (w : Int), suf = ds ++ rest ∧ fX6_number buf bm (iv pre.length) (iv (bnl p)) (iv (bng p)) = some (iv w, iv ((pre.length + ds.length : Nat) : Int)) ∧ (-1 ≤ w ∧ w ≤ 99) ∧ bstop p w rest ∧ (∀ t, brun suf p (-1) t = (ds.length + (brun rest p w t).1, (brun rest p w t).2)) ∧ (∀ r s, bopT suf r 0 s = bopT rest r (max w 0) s) ∧ (ds = [] → w = -1) ∧ (ds ≠ [] → bnl p ≤ w ∧ w ≤ bng p) := by
  have h2 := h.2.1
  have hl : C.length = pre.length + suf.length := by rw [hC]; simp
  exact l_number h hp suf pre bw_fu (-1) hC (by unfold bw_fu; omega) (by omega)
end
