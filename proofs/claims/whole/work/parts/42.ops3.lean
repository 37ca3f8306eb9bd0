/- needs: 10_base 11_kit 12_refw 13_refs 14_refl 15_pay 16_order 17_charge 18_donow 19_donow2 20_tab 21_xpay 22_xqueue 23_xborrow 24_xdo 25_xdo2 30_refops 31_xops 32_saved 33_inv 34_inv2 40_ops 41_ops2 -/
/-! ===== lend, payBack, close, undo ===== -/
theorem if_eq_iv {α : Type} {a b : Nat} {X Y : α} (ha : a < 6) (hb : b < 6) : (if iv (a : Int) = iv (b : Int) then X else Y) = if a = b then X else Y := by
  rw [ite_iv (r32n (by omega)) (r32n (by omega))]
  by_cases h : a = b
  · rw [if_pos h, if_pos (by omega)]
  · rw [if_neg h, if_neg (by omega)]
section
variable {s : bSt} {H : List bSt} {f b : Int} {d : Nat → Nat → Int32} {sl : Nat → Nat → Nat → Int32} {hn hs : Int32} {z rows : Nat → Int32} {sm : Int32}
theorem bIn.ab6 (h : bIn s f b) : ∀ e ∈ s.2.2.2.1, e.1 < 6 ∧ e.2.1 < 6 := fun e he => by
  have := h.m.w.e he
  have := h.m.n6
  omega
theorem bIn.pd (h : bIn s f b) (hb : b ≤ 1000000000) : ∀ e ∈ s.2.2.2.1, 0 < e.2.2 ∧ e.2.2 ≤ 1000000000 := fun e he => by
  have h2 := (bsum_nn h.m.pos).2 e he
  have h3 := h.m.LS
  exact ⟨h.m.pos e he, by omega⟩
theorem op_lend (h : bDK s H f b d sl hn hs z rows sm) (hf : 0 ≤ f ∧ f ≤ 310000) (hb : b ≤ 200000000) (th p1 p2 p3 : Int32) : bOk (fX5_lend d sl hn hs p1 p2 p3) fun c => bOk (fX6_lend z rows sm th p1 p2 p3) fun m => bAg bkI c.1 c.2.1 m.1 m.2.2.2.2 ∧ ∃ s' H', bDK s' H' (f + 600) (b + 310000) c.2.2.1 c.2.2.2.1 c.2.2.2.2.1 c.2.2.2.2.2 m.2.1 m.2.2.1 m.2.2.2.1 := by
  have h6 := h.np6
  have hX : bRX (d 0) (d 1) (d 2) (d 3) (d 5 0) (d 5 1) s := h.x
  have hp1 := r32_of p1
  have hp2 := r32_of p2
  have hp3 := r32_of p3
  rw [← iv_of p1, ← iv_of p2, ← iv_of p3]
  generalize p1.toInt = p at hp1 ⊢
  generalize p2.toInt = q at hp2 ⊢
  generalize p3.toInt = x at hp3 ⊢
  have a1 : fX5_isOutside (iv x) 1 99 = some (if 1 ≤ x ∧ x ≤ 99 then 0 else 1) := f_out (l := 1) (m := 99) hp3 (r32i (by omega) (by omega)) (r32i (by omega) (by omega))
  have a2 : fX6_in (iv x) 1 99 = some (if 1 ≤ x ∧ x ≤ 99 then 1 else 0) := f_in (l := 1) (m := 99) hp3 (r32i (by omega) (by omega)) (r32i (by omega) (by omega))
  unfold fX5_lend fX6_lend jX6_lend_21 jX6_lend_42 jX6_lend_79 fX6_fails
  simp only [f_needProject h.x hp1, f_isProject h.z hp1, f_needProject h.x hp2, f_isProject h.z hp2, a1, a2, bw_b1_s, bw_b2_s, ite_10, ite_01]
  have bad : ∀ e : Nat, e = 1 ∨ e = 2 ∨ e = 3 → bOk (some (e, (0 : Int32), d, sl, hn, hs)) fun c => bOk (some ((0 : Int32), z, rows, sm, bkI e)) fun m => bAg bkI c.1 c.2.1 m.1 m.2.2.2.2 ∧ ∃ s' H', bDK s' H' (f + 600) (b + 310000) c.2.2.1 c.2.2.2.1 c.2.2.2.2.1 c.2.2.2.2.2 m.2.1 m.2.2.1 m.2.2.2.1 := by
    intro e he
    refine bOk_s (bOk_s ⟨.inr ?_, h.same⟩)
    rcases he with rfl | rfl | rfl <;> refine ⟨by simp, by simp, rfl, by simp [bkI]⟩
  by_cases c1 : 0 ≤ p ∧ p ≤ (s.1 : Int) - 1
  · obtain ⟨i, rfl, hi⟩ := isP c1
    rw [if_pos c1, if_pos c1, thn0]
    by_cases c2 : 0 ≤ q ∧ q ≤ (s.1 : Int) - 1
    · obtain ⟨j, rfl, hj⟩ := isP c2
      rw [if_pos c2, if_pos c2, thn0, if_eq_iv (by omega) (by omega), if_eq_iv (by omega) (by omega)]
      by_cases c3 : i = j
      · rw [if_pos c3, if_pos c3]
        exact bad 2 (by omega)
      · rw [if_neg c3, if_neg c3]
        by_cases c4 : 1 ≤ x ∧ x ≤ 99
        · rw [if_pos c4, if_pos c4, x_isOpen (bRX.xs h.x) (by omega) (h.i.m.op i hi), bw_b1_s, ite_10, f_isOpen h.z hi (h.i.m.op i hi), bw_b1_s, ite_10]
          by_cases c5 : s.2.1 i 7 = 1
          · rw [if_pos c5, if_pos c5, x_isOpen (bRX.xs h.x) (by omega) (h.i.m.op j hj), bw_b1_s, ite_10, f_isOpen h.z hj (h.i.m.op j hj), bw_b1_s, ite_10]
            by_cases c6 : s.2.1 j 7 = 1
            · have hF := h.i.m.Fr (by omega) i hi
              rw [if_pos c6, if_pos c6, x_part h.x hi 2 (by omega) (by omega), bw_b1_s, f_at, bw_b1_s, h.z.rF hi, bw_b1_s, show bT (bTP s.2.1) s.2.2.1 s.2.2.2.1 i 2 = s.2.2.1 i from rfl, ite_le hp3 (r32i (by omega) (by omega)), ite_le hp3 (r32i (by omega) (by omega))]
              by_cases c7 : x ≤ s.2.2.1 i
              · rw [if_pos c7, if_pos c7]
                have hw29 := fun hne => h.i.m.w.l29 h6 hi hj c3 hne
                refine bOk_b3 (x_keep h.x h.h) fun sl1 hn1 hs1 hk1 => ?_
                refine bOk_b3 (x_lendDays (bRX.x h.x) h.i.ab6 (h.i.pd (by omega)) (by omega) (by omega) hw29 (x := x) (by omega)) fun tp1 tl1 nl1 hx => ?_
                rw [bw_let_s]
                have hI := h.i.lend hi hj c3 c5 c6 ⟨c4.1, c4.2, c7⟩
                have hxd : bRD (va_up (va_up (va_up d 0 tp1) 2 tl1) 5 (upd (d 5) 1 nl1)) (blnd s i j x) := by
                  show bRX tp1 (d 1) tl1 (d 3) (d 5 0) nl1 (blnd s i j x)
                  exact ⟨hX.n6, hX.n, hx, hX.k, hX.sS⟩
                have eo : fX0_daysOwed tl1 nl1 (iv j) (iv i) = some (iv (bow i j (badd i j x s.2.2.2.1))) := x_daysOwed (by omega) (by omega) hI.ab6 hx.l
                rw [show fX0_daysOwed (va_up (va_up (va_up d 0 tp1) 2 tl1) 5 (upd (d 5) 1 nl1) 2) (va_up (va_up (va_up d 0 tp1) 2 tl1) 5 (upd (d 5) 1 nl1) 5 1) (iv j) (iv i) = some (iv (bow i j (badd i j x s.2.2.2.1))) from eo, bw_b1_s]
                refine bOk_s ?_
                refine bOk_b2 (f_save h.z h.r) fun rows1 sm1 hr => ?_
                refine bOk_b1 (f_addLoan h.z h.i.m.w.lok (by omega) (by omega) hw29 x) fun z1 hz1 => ?_
                rw [f_at, bw_b1_s, hz1.rF hi, bw_b1_s, iv_sub]
                refine bOk_b1 (hz1.wF hi _) fun z2 hz2 => ?_
                rw [bw_b1_s, hz2.rF hj, bw_b1_s, iv_add]
                refine bOk_b1 (hz2.wF hj _) fun z3 hz3 => ?_
                have hz3' : bRZ z3 (blnd s i j x) := hz3
                rw [f_owedOf hz3' hI.m.w.lok (by omega) (by omega), bw_b1_s]
                exact bOk_s ⟨.inl ⟨rfl, rfl, rfl⟩, _, bpush s H, hxd, hk1, hz3', hr, hI.bc (by omega) (by omega), h.hp⟩
              · rw [if_neg c7, if_neg c7]
                exact bad 3 (by omega)
            · rw [if_neg c6, if_neg c6]
              exact bad 3 (by omega)
          · rw [if_neg c5, if_neg c5]
            exact bad 3 (by omega)
        · rw [if_neg c4, if_neg c4]
          exact bad 2 (by omega)
    · rw [if_neg c2, if_neg c2, thn1 _ _ _ (by omega)]
      exact bad 1 (by omega)
  · rw [if_neg c1, if_neg c1, thn1 _ _ _ (by omega)]
    exact bad 1 (by omega)
theorem op_payBack (h : bDK s H f b d sl hn hs z rows sm) (hf : 0 ≤ f ∧ f ≤ 310000) (hb : b ≤ 200000000) (th p1 p2 p3 : Int32) : bOk (fX5_payBack d sl hn hs p1 p2 p3) fun c => bOk (fX6_payBack z rows sm th p1 p2 p3) fun m => bAg bkI c.1 c.2.1 m.1 m.2.2.2.2 ∧ ∃ s' H', bDK s' H' (f + 600) (b + 310000) c.2.2.1 c.2.2.2.1 c.2.2.2.2.1 c.2.2.2.2.2 m.2.1 m.2.2.1 m.2.2.2.1 := by
  have h6 := h.np6
  have hX : bRX (d 0) (d 1) (d 2) (d 3) (d 5 0) (d 5 1) s := h.x
  have hp1 := r32_of p1
  have hp2 := r32_of p2
  have hp3 := r32_of p3
  rw [← iv_of p1, ← iv_of p2, ← iv_of p3]
  generalize p1.toInt = q at hp1 ⊢
  generalize p2.toInt = p at hp2 ⊢
  generalize p3.toInt = x at hp3 ⊢
  have a1 : fX5_isOutside (iv x) 1 9999 = some (if 1 ≤ x ∧ x ≤ 9999 then 0 else 1) := f_out (l := 1) (m := 9999) hp3 (r32i (by omega) (by omega)) (r32i (by omega) (by omega))
  have a2 : fX6_in (iv x) 1 9999 = some (if 1 ≤ x ∧ x ≤ 9999 then 1 else 0) := f_in (l := 1) (m := 9999) hp3 (r32i (by omega) (by omega)) (r32i (by omega) (by omega))
  unfold fX5_payBack fX6_payBack jX6_payBack_21 jX6_payBack_43 jX6_payBack_74 fX6_fails
  simp only [f_needProject h.x hp1, f_isProject h.z hp1, f_needProject h.x hp2, f_isProject h.z hp2, a1, a2, bw_b1_s, bw_b2_s, ite_10, ite_01]
  have bad : ∀ e : Nat, e = 1 ∨ e = 2 ∨ e = 3 → bOk (some (e, (0 : Int32), d, sl, hn, hs)) fun c => bOk (some ((0 : Int32), z, rows, sm, bkI e)) fun m => bAg bkI c.1 c.2.1 m.1 m.2.2.2.2 ∧ ∃ s' H', bDK s' H' (f + 600) (b + 310000) c.2.2.1 c.2.2.2.1 c.2.2.2.2.1 c.2.2.2.2.2 m.2.1 m.2.2.1 m.2.2.2.1 := by
    intro e he
    refine bOk_s (bOk_s ⟨.inr ?_, h.same⟩)
    rcases he with rfl | rfl | rfl <;> refine ⟨by simp, by simp, rfl, by simp [bkI]⟩
  by_cases c1 : 0 ≤ q ∧ q ≤ (s.1 : Int) - 1
  · obtain ⟨j, rfl, hj⟩ := isP c1
    rw [if_pos c1, if_pos c1, thn0]
    by_cases c2 : 0 ≤ p ∧ p ≤ (s.1 : Int) - 1
    · obtain ⟨i, rfl, hi⟩ := isP c2
      rw [if_pos c2, if_pos c2, thn0, if_eq_iv (by omega) (by omega), if_eq_iv (by omega) (by omega)]
      by_cases c3 : i = j
      · rw [if_pos c3, if_pos c3]
        exact bad 2 (by omega)
      · rw [if_neg c3, if_neg c3]
        by_cases c4 : 1 ≤ x ∧ x ≤ 9999
        · have hF := h.i.m.Fr (by omega) j hj
          have hbr : 0 ≤ bow i j s.2.2.2.1 ∧ bow i j s.2.2.2.1 ≤ 1000000000 := by
            rcases bsplit i j s.2.2.2.1 with hn | ⟨pre, e, suf, e1, e2, e3, e4⟩
            · by_cases q : bpos i j s.2.2.2.1 ((0 : Nat) : Int) = -1
              · rw [(bpos_none q (by omega)).1]; omega
              · obtain ⟨pre, e, suf, h3, h4, h5, h6', h7, h8⟩ := bpos_some q
                exact absurd ⟨h5, h6'⟩ (hn e (by rw [h3]; simp))
            · by_cases q : bpos i j s.2.2.2.1 ((0 : Nat) : Int) = -1
              · rw [(bpos_none q (by omega)).1]; omega
              · obtain ⟨pre, e, suf, h3, h4, h5, h6', h7, h8⟩ := bpos_some q
                have := h.i.pd (by omega) e (by rw [h3]; simp)
                rw [h7]; omega
          rw [if_pos c4, if_pos c4, x_daysOwed (a := i) (b := j) (by omega) (by omega) h.i.ab6 (bRX.x h.x).l, bw_b1_s, f_owedOf h.z h.i.m.w.lok (a := i) (b := j) (by omega) (by omega), bw_b1_s, ite_lt (r32i (by omega) (by omega)) hp3, ite_lt (r32i (by omega) (by omega)) hp3]
          by_cases c5 : bow i j s.2.2.2.1 < x
          · rw [if_pos c5, if_pos c5]
            exact bad 3 (by omega)
          · rw [if_neg c5, if_neg c5, x_part h.x hj 2 (by omega) (by omega), bw_b1_s, f_at, bw_b1_s, h.z.rF hj, bw_b1_s, show bT (bTP s.2.1) s.2.2.1 s.2.2.2.1 j 2 = s.2.2.1 j from rfl, ite_le hp3 (r32i (by omega) (by omega)), ite_le hp3 (r32i (by omega) (by omega))]
            by_cases c7 : x ≤ s.2.2.1 j
            · rw [if_pos c7, if_pos c7]
              have hq : bpos i j s.2.2.2.1 ((0 : Nat) : Int) ≠ -1 := fun q => by rw [(bpos_none q (by omega)).1] at c5; omega
              obtain ⟨pre, e, suf, h3, h4, h5, h6', h7, h8⟩ := bpos_some hq
              have h4' : bpos i j s.2.2.2.1 0 = (pre.length : Int) := by rw [Nat.zero_add] at h4; exact h4
              have hpe := h.i.pd (by omega) e (by rw [h3]; simp)
              have hI := h.i.payBack hi hj c3 (x := x) ⟨by omega, by omega, c7⟩
              have eL : bctL i j x s.2.2.2.1 = bcut pre e suf (e.2.2 - x) := by rw [h3]; exact bctL_some h8 h5 h6'
              refine bOk_b3 (x_keep h.x h.h) fun sl1 hn1 hs1 hk1 => ?_
              rw [x_place (a := i) (b := j) (by omega) (by omega) h.i.ab6 (bRX.x h.x).l, bw_b1_s, h4']
              have hxl : bXL (d 0) (d 2) (d 5 1) (bTP s.2.1) s.2.2.1 (pre ++ e :: suf) := by rw [← h3]; exact bRX.x h.x
              refine bOk_b3 (x_payLoan hxl (by omega) (by omega) (x := x) (r32i (by omega) (by omega))) fun tp1 tl1 nl1 hx => ?_
              rw [bw_let_s]
              have hx' : bXL tp1 tl1 nl1 (bTP s.2.1) (bmv s.2.2.1 j i x) (bctL i j x s.2.2.2.1) := by
                rw [eL]
                subst h5 h6'
                exact hx
              have hxd : bRD (va_up (va_up (va_up d 0 tp1) 2 tl1) 5 (upd (d 5) 1 nl1)) (bpbk s j i x) := by
                show bRX tp1 (d 1) tl1 (d 3) (d 5 0) nl1 (bpbk s j i x)
                exact ⟨hX.n6, hX.n, hx', hX.k, hX.sS⟩
              have eo : fX0_daysOwed tl1 nl1 (iv j) (iv i) = some (iv (bow i j (bctL i j x s.2.2.2.1))) := x_daysOwed (by omega) (by omega) hI.ab6 hx'.l
              rw [show fX0_daysOwed (va_up (va_up (va_up d 0 tp1) 2 tl1) 5 (upd (d 5) 1 nl1) 2) (va_up (va_up (va_up d 0 tp1) 2 tl1) 5 (upd (d 5) 1 nl1) 5 1) (iv j) (iv i) = some (iv (bow i j (bctL i j x s.2.2.2.1))) from eo, bw_b1_s]
              refine bOk_s ?_
              refine bOk_b2 (f_save h.z h.r) fun rows1 sm1 hr => ?_
              rw [bw_b1_s, h.z.rF hj, bw_b1_s, iv_sub]
              refine bOk_b1 (h.z.wF hj _) fun z2 hz2 => ?_
              rw [f_at, bw_b1_s, hz2.rF hi, bw_b1_s, iv_add]
              refine bOk_b1 (hz2.wF hi _) fun z3 hz3 => ?_
              have hz3' : bRZ z3 (s.1, s.2.1, bmv s.2.2.1 j i x, s.2.2.2.1, s.2.2.2.2.1, s.2.2.2.2.2) := hz3
              rw [f_placeOf hz3' h.i.m.w.lok (a := i) (b := j) (by omega) (by omega), bw_b1_s]
              dsimp only
              rw [h4']
              refine bOk_b1 (f_cutLoan hz3' (pre := pre) (suf := suf) (e := e) h3 (x := x) (r32i (by omega) (by omega))) fun z4 hz4 => ?_
              have hz4' : bRZ z4 (bpbk s j i x) := by
                show bRZ z4 (s.1, s.2.1, bmv s.2.2.1 j i x, bctL i j x s.2.2.2.1, s.2.2.2.2.1, s.2.2.2.2.2)
                rw [eL]
                exact hz4
              rw [f_owedOf hz4' hI.m.w.lok (a := i) (b := j) (by omega) (by omega), bw_b1_s]
              exact bOk_s ⟨.inl ⟨rfl, rfl, rfl⟩, _, bpush s H, hxd, hk1, hz4', hr, hI.bc (by omega) (by omega), h.hp⟩
            · rw [if_neg c7, if_neg c7]
              exact bad 3 (by omega)
        · rw [if_neg c4, if_neg c4]
          exact bad 2 (by omega)
    · rw [if_neg c2, if_neg c2, thn1 _ _ _ (by omega)]
      exact bad 1 (by omega)
  · rw [if_neg c1, if_neg c1, thn1 _ _ _ (by omega)]
    exact bad 1 (by omega)
def bkC (e : Nat) : Int32 := if e = 1 then 1 else if e = 3 then 2 else 0
theorem op_close (h : bDK s H f b d sl hn hs z rows sm) (hf : 0 ≤ f ∧ f ≤ 310000) (hb : b ≤ 200000000) (th p1 : Int32) : bOk (fX5_close d sl hn hs p1) fun c => bOk (fX6_close z rows sm th p1) fun m => bAg bkC c.1 c.2.1 m.1 m.2.2.2.2 ∧ ∃ s' H', bDK s' H' (f + 600) (b + 310000) c.2.2.1 c.2.2.2.1 c.2.2.2.2.1 c.2.2.2.2.2 m.2.1 m.2.2.1 m.2.2.2.1 := by
  have h6 := h.np6
  have hX : bRX (d 0) (d 1) (d 2) (d 3) (d 5 0) (d 5 1) s := h.x
  have hp1 := r32_of p1
  rw [← iv_of p1]
  generalize p1.toInt = p at hp1 ⊢
  unfold fX5_close fX6_close jX6_close_35 fX6_fails
  simp only [f_needProject h.x hp1, f_isProject h.z hp1, bw_b1_s, bw_b2_s, ite_10, ite_01]
  have bad : ∀ e : Nat, e = 1 ∨ e = 3 → bOk (some (e, (0 : Int32), d, sl, hn, hs)) fun c => bOk (some ((0 : Int32), z, rows, sm, bkC e)) fun m => bAg bkC c.1 c.2.1 m.1 m.2.2.2.2 ∧ ∃ s' H', bDK s' H' (f + 600) (b + 310000) c.2.2.1 c.2.2.2.1 c.2.2.2.2.1 c.2.2.2.2.2 m.2.1 m.2.2.1 m.2.2.2.1 := by
    intro e he
    refine bOk_s (bOk_s ⟨.inr ?_, h.same⟩)
    rcases he with rfl | rfl <;> refine ⟨by simp, by simp, rfl, by simp [bkC]⟩
  by_cases c1 : 0 ≤ p ∧ p ≤ (s.1 : Int) - 1
  · obtain ⟨k, rfl, hk⟩ := isP c1
    have hmn := h.i.mn k hk
    rw [if_pos c1, if_pos c1, thn0, x_isOpen (bRX.xs h.x) (by omega) (h.i.m.op k hk), bw_b1_s, ite_10, f_isOpen h.z hk (h.i.m.op k hk), bw_b1_s, ite_10]
    by_cases c2 : s.2.1 k 7 = 1
    · rw [if_pos c2, if_pos c2, x_need h.x hk h.i, bw_b1_s, ite_10, f_hasNext h.z hk (r32i (by omega) (by omega)) (r32i (by omega) (by omega)), bw_b1_s, ite_10]
      by_cases c3 : s.2.1 k 6 < s.2.1 k 5
      · rw [if_pos ⟨c2, c3⟩, if_pos c3]
        exact bad 3 (by omega)
      · rw [if_neg (fun q => c3 q.2), if_neg c3]
        have hF := h.i.m.Fr (by omega) k hk
        have hI := h.i.close hk
        have hpay := h.i.m.pay hk (s.2.2.1 k)
        have emin : min (s.2.2.1 k) (s.2.2.1 k) = s.2.2.1 k := Int.min_eq_left (Int.le_refl _)
        have hld : bLd 6 s.2.2.2.1 := fun e he => by have := h.i.m.ld (by omega) e he; omega
        refine bOk_b3 (x_keep h.x h.h) fun sl1 hn1 hs1 hk1 => ?_
        have hclose : bOk (fX0_closeProject (d 0) (d 2) (d 5 1) (iv k)) fun r => r.1 = iv (bwo k (bpayA s k (s.2.2.1 k)).2.2.2.1 s.2.1).2.2 ∧ bXL r.2.1 r.2.2.1 r.2.2.2 (bTP (bcls s k).2.1) (bcls s k).2.2.1 (bcls s k).2.2.2.1 := by
          unfold fX0_closeProject
          rw [(bRX.x h.x).t.g (by omega) 2 (by omega), bw_b1_s, show bT (bTP s.2.1) s.2.2.1 s.2.2.2.1 k 2 = s.2.2.1 k from rfl]
          refine bOk_b3 (x_repay (by omega) (bRX.x h.x) hld (left := s.2.2.1 k) (by omega)) fun tp1 tl1 nl1 h1 => ?_
          dsimp only at h1
          have e1 : (bpayA s k (s.2.2.1 k)).2.2.2.1 = (bpay k s.2.2.2.1 (s.2.2.1 k) s.2.2.1).1 := by show (bpay k s.2.2.2.1 (min (s.2.2.1 k) (s.2.2.1 k)) s.2.2.1).1 = _; rw [emin]
          have e2 : (bpayA s k (s.2.2.1 k)).2.2.1 = (bpay k s.2.2.2.1 (s.2.2.1 k) s.2.2.1).2 := by show (bpay k s.2.2.2.1 (min (s.2.2.1 k) (s.2.2.1 k)) s.2.2.1).2 = _; rw [emin]
          rw [← e1, ← e2] at h1
          have h30 := h1.l.l30
          have := l_xclose (k := k) (by omega) (bpayA s k (s.2.2.1 k)).2.2.2.1 [] bw_fu 0 tp1 tl1 nl1 s.2.1 h1 (by unfold bw_fu; omega) (fun e he => by have := hpay.w.e he; have e3 : (bpayA s k (s.2.2.1 k)).1 = s.1 := rfl; omega)
          rw [← h1.l.n, Int.zero_add] at this
          exact this
        refine bOk_b4 hclose fun r1 tp1 tl1 nl1 hx => bOk_s ?_
        refine bOk_b2 (f_save h.z h.r) fun rows1 sm1 hr => ?_
        rw [f_at, bw_b1_s, h.z.rF hk, bw_b1_s]
        refine bOk_b1 (f_payAll h.z (h.i.m.ld (by omega)) hk (by omega) (most := s.2.2.1 k) (by omega)) fun z1 hz1 => ?_
        refine bOk_b2 (f_writeOff hz1 hpay.w.lok (k := k) (by omega)) fun w1 z2 hz2 => ?_
        obtain ⟨q1, hz2⟩ := hz2
        dsimp only at q1 hz2
        subst q1
        rw [bw_b1_s]
        refine bOk_b1 (hz2.wP hk 7 (by omega) (by omega) 0) fun z3 hz3 => ?_
        rw [hz3.r2, bw_b1_s, iv_add]
        refine bOk_b1 (hz3.w2 _) fun z4 hz4 => ?_
        have hP := bwo_P (k := k) (np := s.1) (L := (bpayA s k (s.2.2.1 k)).2.2.2.1) (P := s.2.1) fun e he => ⟨(hpay.w.e he).1, (hpay.w.e he).2.1⟩
        have hK : bRK (d 1) (bcls s k).2.1 := by
          intro k' t' c' hk' ht' hc'
          rw [hX.k k' t' c' hk' ht' hc']
          have hbk : 10 ≤ bkc t' c' := by unfold bkc; split <;> (try split) <;> omega
          show _ = iv (up2 (bwo k (bpayA s k (s.2.2.1 k)).2.2.2.1 s.2.1).2.1 k 7 0 k' (bkc t' c'))
          rw [up2_c _ _ _ _ (by omega), hP.1 k' (bkc t' c') (.inl (by omega))]
        have hxd : bRD (va_up (va_up (va_up d 0 tp1) 2 tl1) 5 (upd (d 5) 1 nl1)) (bcls s k) := by
          show bRX tp1 (d 1) tl1 (d 3) (d 5 0) nl1 (bcls s k)
          exact ⟨hX.n6, hX.n, hx.2, hK, hX.sS⟩
        exact bOk_s ⟨.inl ⟨rfl, rfl, hx.1⟩, bcls s k, bpush s H, hxd, hk1, hz4, hr, hI.bc (by omega) (by omega), h.hp⟩
    · rw [if_neg c2, if_neg c2]
      exact bad 3 (by omega)
  · rw [if_neg c1, if_neg c1, thn1 _ _ _ (by omega)]
    exact bad 1 (by omega)
def bkU (e : Nat) : Int32 := if e = 3 then 1 else 0
theorem op_undo (h : bDK s H f b d sl hn hs z rows sm) (th : Int32) : bOk (fX5_undo d sl hn hs) fun c => bOk (fX6_undo z rows sm th) fun m => bAg bkU c.1 c.2.1 m.1 m.2.2.2 ∧ ∃ s' H', bDK s' H' (f + 600) (b + 310000) c.2.2.1 sl c.2.2.2.1 c.2.2.2.2 m.2.1 rows m.2.2.1 := by
  have l6 := h.h.l6
  unfold fX5_undo fX1_size
  rw [bw_b1_s]
  cases H with
  | nil =>
    rw [f_undo_0 h.r]
    rw [if_pos (show hs = 0 from h.h.n)]
    refine bOk_s (bOk_s ⟨.inr ⟨by simp, by simp, rfl, by simp [bkU]⟩, ?_⟩)
    have e : sm = sm := rfl
    exact ⟨s, [], h.x, h.h, h.z, h.r, h.i.bc (by omega) (by omega), fun t ht => by cases ht⟩
  | cons t H =>
    rw [List.length_cons] at l6
    rw [if_neg (show ¬hs = 0 by
      rw [h.h.n, List.length_cons, show (0 : Int32) = iv 0 from rfl, iv_eq (by omega) (by omega) (by omega) (by omega)]
      omega)]
    refine bOk_b3 (x_giveBack h.h) fun d1 hn1 hs1 hx => ?_
    rw [bw_b1_s]
    refine bOk_s ?_
    refine bOk_m (f_undo h.r) fun m hm => ?_
    refine ⟨.inl ⟨rfl, hm.2.2.2, ?_⟩, t, H, hx.1, hx.2, hm.2.1, hm.2.2.1, (h.hi t List.mem_cons_self).bc (by omega) (by omega), fun u hu => (h.hi u (List.mem_cons_of_mem _ hu)).bc (by omega) (by omega)⟩
    rw [hm.1]
    exact hx.2.n
end
