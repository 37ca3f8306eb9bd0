/- needs: 51.parse -/
/-! ===== texts: the reference reads a plan ===== -/
section
variable {buf : Nat → Int32} {bm : Int32} {C : List Int}
theorem brun_stop {p : Nat} {v : Int} {t : Nat} {suf : List Int} (h1 : bstop p v suf) (h2 : ∀ c cs, suf = c :: cs → v = -1 ∨ (¬(p = 0 ∧ c = 58) ∧ ¬(p = 1 ∧ c = 58) ∧ ¬(p = 2 ∧ c = 43 ∧ t < 8) ∧ ¬(p = 2 ∧ c = 59))) : brun suf p v t = (0, p, v, t) := by
  cases suf with
  | nil => rfl
  | cons c cs =>
    have a := h1 c cs rfl
    have b := h2 c cs rfl
    have e : bstep p v t c = (0, p, v, t) := by
      unfold bstep
      by_cases c1 : 48 ≤ c ∧ c ≤ 57
      · rw [if_pos c1, if_neg (fun q => a ⟨c1, q⟩)]
      · rw [if_neg c1]
        rcases b with b | ⟨b1, b2, b3, b4⟩
        · rw [if_pos b]
        · by_cases c2 : v = -1
          · rw [if_pos c2]
          · rw [if_neg c2, if_neg b1, if_neg b2, if_neg b3, if_neg b4]
    rw [brun_c, e, if_neg (show ¬(0, p, v, t).1 = 1 by simp)]
theorem rd110 {rd : Nat → Int32} {e : Int} {i : Nat} (h1 : e = i) (h2 : i < 110) : bw_rd 110 rd (iv e) = some (rd i) := by
  subst h1
  rw [iv_rd (by omega) (by omega) (by omega)]
  rfl
theorem wr110 {rd : Nat → Int32} {e : Int} {i : Nat} {x : Int32} (h1 : e = i) (h2 : i < 110) : bw_wr 110 rd (iv e) x = some (upd rd i x) := by
  subst h1
  rw [iv_wr (by omega) (by omega) (by omega)]
  rfl
/-- the tasks of the project that is being read -/
abbrev bRc (rd : Nat → Int32) (m : Nat) (ts : List Int) : Prop := rd (11 * m + 2) = iv ts.length ∧ ∀ (t : Nat) (ht : t < ts.length), rd (11 * m + 3 + t) = iv ts[t]
theorem bRc_add {rd : Nat → Int32} {m : Nat} {ts : List Int} (h : bRc rd m ts) (h8 : ts.length < 8) (w : Int) : bRc (upd (upd rd (11 * m + 3 + ts.length) (iv w)) (11 * m + 2) (iv ((ts.length + 1 : Nat) : Int))) m (ts ++ [w]) := by
  refine ⟨by rw [upd_self, len_snoc], fun t ht => ?_⟩
  rw [len_snoc] at ht
  rw [upd_ne _ _ (by omega)]
  by_cases c : t < ts.length
  · rw [upd_ne _ _ (by omega), List.getElem_append_left c]
    exact h.2 t c
  · have : t = ts.length := by omega
    subst this
    rw [upd_self]
    simp
abbrev bgood (ts : List Int) : Prop := ∀ x ∈ ts, 1 ≤ x ∧ x ≤ 60
theorem l_tasks (h : bTX buf bm C) {m : Nat} (hm : m ≤ 9) : ∀ (n : Nat) (suf pre : List Int) (rd : Nat → Int32) (ts : List Int), C = pre ++ suf → suf.length + 1 < n → ts.length < 8 → bRc rd m ts → bgood ts → ∃ (con rest nw : List Int) (w : Int) (rd' : Nat → Int32) (ok : Int32), suf = con ++ rest ∧ lX6_tasks_13 buf bm (iv ((11 * m : Nat) : Int)) n (iv pre.length) rd 1 1 = some (ok, iv ((pre.length + con.length : Nat) : Int), rd') ∧ (∀ j, j < 11 * m + 2 ∨ 11 * m + 11 ≤ j → rd' j = rd j) ∧ ((ok = 0 ∧ brun suf 2 (-1) (ts.length + 1) = (con.length, 2, -1, ts.length + nw.length + 1)) ∨ (ok = 1 ∧ bRc rd' m (ts ++ nw ++ [w]) ∧ bgood (ts ++ nw ++ [w]) ∧ ts.length + nw.length + 1 ≤ 8 ∧ brun suf 2 (-1) (ts.length + 1) = (con.length + (brun rest 2 w (ts.length + nw.length + 1)).1, (brun rest 2 w (ts.length + nw.length + 1)).2) ∧ w ≠ -1 ∧ bstop 2 w rest ∧ (∀ c cs, rest = c :: cs → ¬(c = 43 ∧ ts.length + nw.length + 1 < 8)) ∧ con ≠ [] ∧ ∀ s, bopT suf 0 0 s = bopT rest 0 w (bplns s nw))) := by
  intro n
  induction n with
  | zero => intro suf pre rd ts hC hn; omega
  | succ n ih =>
    intro suf pre rd ts hC hn ht8 hc hgd
    obtain ⟨ds, rest, w, i1, i2, i3, i4, i5, i6, i7, i8⟩ := f_number h (p := 2) (by omega) hC
    have i2' : fX6_number buf bm (iv pre.length) 1 60 = some (iv w, iv ((pre.length + ds.length : Nat) : Int)) := i2
    have hC2 : C = (pre ++ ds) ++ rest := by rw [hC, i1]; simp
    have hl2 : (pre ++ ds).length = pre.length + ds.length := by simp
    show ∃ (con rest nw : List Int) (w : Int) (rd' : Nat → Int32) (ok : Int32), suf = con ++ rest ∧ bX6_tasks_13 (lX6_tasks_13 buf bm (iv ((11 * m : Nat) : Int)) n) buf bm (iv ((11 * m : Nat) : Int)) (iv pre.length) rd 1 1 = some (ok, iv ((pre.length + con.length : Nat) : Int), rd') ∧ _
    have hb : bX6_tasks_13 (lX6_tasks_13 buf bm (iv ((11 * m : Nat) : Int)) n) buf bm (iv ((11 * m : Nat) : Int)) (iv pre.length) rd 1 1 = if w = -1 then lX6_tasks_13 buf bm (iv ((11 * m : Nat) : Int)) n (iv ((pre.length + ds.length : Nat) : Int)) rd 0 0 else jX6_tasks_37 (lX6_tasks_13 buf bm (iv ((11 * m : Nat) : Int)) n) buf bm (iv ((pre.length + ds.length : Nat) : Int)) rd (iv ((11 * m : Nat) : Int)) (iv w) 1 := by
      unfold bX6_tasks_13
      rw [if_neg (show ¬(1 : Int32) = 0 by decide), i2', show ∀ (a b : Int32) (g : Int32 → Int32 → Option (Int32 × Int32 × bw_A1)), bw_b2 (some (a, b)) g = g a b from fun _ _ _ => rfl, show (-1 : Int32) = iv (-1) from rfl, ite_iv (r32i (by omega) (by omega)) (r32i (by omega) (by omega))]
      by_cases q : w = -1
      · rw [if_pos q, if_pos q]
        rfl
      · rw [if_neg q, if_neg q]
    rw [hb]
    have hfin : ∀ (pl : Nat) (r : Nat → Int32) (x : Int32), x = 0 ∨ x = 1 → lX6_tasks_13 buf bm (iv ((11 * m : Nat) : Int)) n (iv pl) r 0 x = some (x, iv pl, r) := by
      intro pl r x hx
      cases n with
      | zero => omega
      | succ n =>
        show bX6_tasks_13 (lX6_tasks_13 buf bm (iv ((11 * m : Nat) : Int)) n) buf bm (iv ((11 * m : Nat) : Int)) (iv pl) r 0 x = _
        unfold bX6_tasks_13 bw_bool
        rw [if_pos rfl, if_pos hx]
    by_cases cw : w = -1
    · rw [if_pos cw]
      subst cw
      refine ⟨ds, rest, [], -1, rd, 0, i1, hfin _ _ _ (.inl rfl), fun j _ => rfl, .inl ⟨rfl, ?_⟩⟩
      rw [i5, brun_stop i4 (fun c cs q => .inl rfl)]
      rfl
    · rw [if_neg cw]
      have hds : ds ≠ [] := fun q => cw (i7 q)
      have hw := i8 hds
      have hw60 : 1 ≤ w ∧ w ≤ 60 := hw
      have hmw : max w 0 = w := by omega
      have hc1 := bRc_add hc ht8 w
      generalize hrd1 : upd (upd rd (11 * m + 3 + ts.length) (iv w)) (11 * m + 2) (iv ((ts.length + 1 : Nat) : Int)) = rd1 at hc1
      have hframe : ∀ j, j < 11 * m + 2 ∨ 11 * m + 11 ≤ j → rd1 j = rd j := fun j hj => by
        rw [← hrd1, upd_ne _ _ (by omega), upd_ne _ _ (by omega)]
      have hgd1 : bgood (ts ++ [w]) := fun x hx => by
        rcases List.mem_append.mp hx with hx | hx
        · exact hgd x hx
        · rw [List.mem_singleton] at hx; subst hx; exact hw60
      have e2 : jX6_tasks_37 (lX6_tasks_13 buf bm (iv ((11 * m : Nat) : Int)) n) buf bm (iv ((pre.length + ds.length : Nat) : Int)) rd (iv ((11 * m : Nat) : Int)) (iv w) 1 = jX6_tasks_73 (lX6_tasks_13 buf bm (iv ((11 * m : Nat) : Int)) n) buf bm (iv ((pre.length + ds.length : Nat) : Int)) rd1 (iv ((11 * m : Nat) : Int)) 1 := by
        unfold jX6_tasks_37
        rw [if_neg (show ¬(1 : Int32) = 0 by decide), show (2 : Int32) = iv 2 from rfl, show (3 : Int32) = iv 3 from rfl, iv_add, iv_add, rd110 (i := 11 * m + 2) (by omega) (by omega), bw_b1_s, hc.1, iv_add, wr110 (i := 11 * m + 3 + ts.length) (by omega) (by omega), bw_b1_s, rd110 (i := 11 * m + 2) (by omega) (by omega), bw_b1_s, upd_ne _ _ (by omega), hc.1, iv_succ, wr110 (i := 11 * m + 2) (by omega) (by omega), bw_b1_s, hrd1]
      rw [e2]
      unfold jX6_tasks_73 jX6_tasks_103 jX6_tasks_104
      rw [if_neg (show ¬(1 : Int32) = 0 by decide), show (2 : Int32) = iv 2 from rfl, iv_add, rd110 (i := 11 * m + 2) (by omega) (by omega), bw_b1_s, hc1.1, len_snoc, show (8 : Int32) = iv 8 from rfl, ite_le (r32i (by omega) (by omega)) (r32n (by omega))]
      have hdone : (∀ c cs, rest = c :: cs → ¬(c = 43 ∧ ts.length + 0 + 1 < 8)) → ∃ (con rest_1 nw : List Int) (w_1 : Int) (rd' : Nat → Int32) (ok : Int32), suf = con ++ rest_1 ∧ lX6_tasks_13 buf bm (iv ((11 * m : Nat) : Int)) n (iv ((pre.length + ds.length : Nat) : Int)) rd1 0 1 = some (ok, iv ((pre.length + con.length : Nat) : Int), rd') ∧ (∀ j, j < 11 * m + 2 ∨ 11 * m + 11 ≤ j → rd' j = rd j) ∧ ((ok = 0 ∧ brun suf 2 (-1) (ts.length + 1) = (con.length, 2, -1, ts.length + nw.length + 1)) ∨ (ok = 1 ∧ bRc rd' m (ts ++ nw ++ [w_1]) ∧ bgood (ts ++ nw ++ [w_1]) ∧ ts.length + nw.length + 1 ≤ 8 ∧ brun suf 2 (-1) (ts.length + 1) = (con.length + (brun rest_1 2 w_1 (ts.length + nw.length + 1)).1, (brun rest_1 2 w_1 (ts.length + nw.length + 1)).2) ∧ w_1 ≠ -1 ∧ bstop 2 w_1 rest_1 ∧ (∀ c cs, rest_1 = c :: cs → ¬(c = 43 ∧ ts.length + nw.length + 1 < 8)) ∧ con ≠ [] ∧ ∀ s, bopT suf 0 0 s = bopT rest_1 0 w_1 (bplns s nw))) := by
        intro hn43
        refine ⟨ds, rest, [], w, rd1, 1, i1, hfin _ _ _ (.inr rfl), hframe, .inr ⟨rfl, by rw [List.append_nil]; exact hc1, by rw [List.append_nil]; exact hgd1, by show ts.length + 0 + 1 ≤ 8; omega, i5 _, cw, i4, hn43, hds, fun s => ?_⟩⟩
        rw [i6 0 s, hmw]
        rfl
      by_cases c8 : (8 : Int) ≤ ((ts.length + 1 : Nat) : Int)
      · rw [if_pos c8]
        exact hdone fun c cs _ q => by omega
      · rw [if_neg c8]
        by_cases c43 : ∃ cs, rest = 43 :: cs
        · obtain ⟨cs, hrest⟩ := c43
          rw [hrest] at hC2
          have ht := f_takes_yes h hC2
          rw [hl2] at ht
          have ht' : fX6_takes buf bm (iv ((pre.length + ds.length : Nat) : Int)) 43 = some (1, iv ((pre.length + ds.length + 1 : Nat) : Int)) := ht
          rw [ht', show ∀ (a b : Int32) (g : Int32 → Int32 → Option (Int32 × Int32 × bw_A1)), bw_b2 (some (a, b)) g = g a b from fun _ _ _ => rfl, if_neg (show ¬(1 : Int32) = 0 by decide)]
          have hlen : suf.length = ds.length + (cs.length + 1) := by rw [i1, hrest]; simp
          obtain ⟨con, rest2, nw, w2, rd2, ok, j1, j2, j3, j4⟩ := ih cs (pre ++ ds ++ [43]) rd1 (ts ++ [w]) (by rw [hC2]; simp) (by omega) (by rw [len_snoc]; omega) hc1 hgd1
          have hl3 : (pre ++ ds ++ [43]).length = pre.length + ds.length + 1 := by simp; omega
          rw [hl3] at j2
          rw [len_snoc] at j4
          have hcl : (ds ++ 43 :: con).length = ds.length + (con.length + 1) := by simp
          have hrun : brun suf 2 (-1) (ts.length + 1) = (ds.length + ((brun cs 2 (-1) (ts.length + 1 + 1)).1 + 1), (brun cs 2 (-1) (ts.length + 1 + 1)).2) := by
            have hst : bstep 2 w (ts.length + 1) 43 = (1, 2, -1, ts.length + 1 + 1) := by
              unfold bstep
              rw [if_neg (by omega), if_neg cw, if_neg (by omega), if_neg (by omega), if_pos ⟨rfl, rfl, by omega⟩]
            rw [i5, hrest, brun_c, hst, if_pos rfl]
          have hop : ∀ s, bopT suf 0 0 s = bopT cs 0 0 (bpln s (s.1 - 1) w) := fun s => by
            rw [i6 0 s, hmw, hrest, bopT_c, if_neg (by omega), if_neg (by omega)]
          refine ⟨ds ++ 43 :: con, rest2, w :: nw, w2, rd2, ok, by rw [i1, hrest, j1]; simp, ?_, fun j hj => by rw [j3 j hj, hframe j hj], ?_⟩
          · rw [j2, hcl]
            congr 4
            omega
          · rcases j4 with ⟨k1, k2⟩ | ⟨k1, k2, k3, k4, k5, k6, k7, k8, k9, k10⟩
            · left
              refine ⟨k1, ?_⟩
              rw [hrun, k2, hcl, List.length_cons, show ts.length + (nw.length + 1) + 1 = ts.length + 1 + nw.length + 1 by omega]
            · right
              have e5 : ts ++ [w] ++ nw ++ [w2] = ts ++ (w :: nw) ++ [w2] := by simp
              rw [e5] at k2 k3
              have e6 : ts.length + (w :: nw).length + 1 = ts.length + 1 + nw.length + 1 := by rw [List.length_cons]; omega
              rw [e6]
              refine ⟨k1, k2, k3, k4, ?_, k6, k7, k8, by simp, fun s => ?_⟩
              · rw [hrun, k5, hcl]
                congr 1
                omega
              · rw [hop s, k10]
                rfl
        · have ht := f_takes_no h (c := 43) (by omega) hC2 (fun e es q1 q2 => c43 ⟨es, by rw [q1, q2]⟩)
          rw [hl2] at ht
          have ht' : fX6_takes buf bm (iv ((pre.length + ds.length : Nat) : Int)) 43 = some (0, iv ((pre.length + ds.length : Nat) : Int)) := ht
          rw [ht', show ∀ (a b : Int32) (g : Int32 → Int32 → Option (Int32 × Int32 × bw_A1)), bw_b2 (some (a, b)) g = g a b from fun _ _ _ => rfl, if_pos rfl]
          exact hdone fun c cs q1 q2 => c43 ⟨cs, by rw [q1, q2.1]⟩
end
