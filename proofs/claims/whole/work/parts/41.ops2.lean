/- needs: 10_base 11_kit 12_refw 13_refs 14_refl 15_pay 16_order 17_charge 18_donow 19_donow2 20_tab 21_xpay 22_xqueue 23_xborrow 24_xdo 25_xdo2 30_refops 31_xops 32_saved 33_inv 34_inv2 40_ops -/
/-! ===== the calls that change the state, more ===== -/
def bk12 (e : Nat) : Int32 := if e = 1 then 1 else if e = 2 then 2 else 0
def bk1 (e : Nat) : Int32 := if e = 1 then 1 else 0
def bk2 (e : Nat) : Int32 := if e = 2 then 1 else 0
def bkI (e : Nat) : Int32 := if e = 1 then 1 else if e = 2 then 2 else if e = 3 then 3 else 0
section
variable {s : bSt} {H : List bSt} {f b : Int} {d : Nat → Nat → Int32} {sl : Nat → Nat → Nat → Int32} {hn hs : Int32} {z rows : Nat → Int32} {sm : Int32}
theorem bDK.hp (h : bDK s H f b d sl hn hs z rows sm) : ∀ t ∈ bpush s H, bIn t (f + 600) (b + 310000) := fun t ht => by
  rcases bpush_in ht with rfl | ht
  · exact h.i.bc (by omega) (by omega)
  · exact (h.hi t ht).bc (by omega) (by omega)
theorem op_rank (h : bDK s H f b d sl hn hs z rows sm) (th p1 p2 : Int32) : bOk (fX5_rank d sl hn hs p1 p2) fun c => bOk (fX6_rank z rows sm th p1 p2) fun m => bAg bk12 c.1 c.2.1 m.1 m.2.2.2.2 ∧ ∃ s' H', bDK s' H' (f + 600) (b + 310000) c.2.2.1 c.2.2.2.1 c.2.2.2.2.1 c.2.2.2.2.2 m.2.1 m.2.2.1 m.2.2.2.1 := by
  have h6 := h.np6
  have hp1 := r32_of p1
  have hp2 := r32_of p2
  rw [← iv_of p1, ← iv_of p2]
  generalize p1.toInt = p at hp1 ⊢
  generalize p2.toInt = r at hp2 ⊢
  have a1 : fX5_isOutside (iv r) 1 9 = some (if 1 ≤ r ∧ r ≤ 9 then 0 else 1) := f_out (l := 1) (m := 9) hp2 (r32i (by omega) (by omega)) (r32i (by omega) (by omega))
  have a2 : fX6_in (iv r) 1 9 = some (if 1 ≤ r ∧ r ≤ 9 then 1 else 0) := f_in (l := 1) (m := 9) hp2 (r32i (by omega) (by omega)) (r32i (by omega) (by omega))
  unfold fX5_rank fX6_rank fX6_isRank fX6_fails
  simp only [f_needProject h.x hp1, f_isProject h.z hp1, a1, a2, bw_b1_s, bw_b2_s, bw_bool_if, ite_10, ite_01]
  by_cases c1 : 0 ≤ p ∧ p ≤ (s.1 : Int) - 1
  · obtain ⟨k, rfl, hk⟩ := isP c1
    rw [if_pos c1, if_pos c1, thn0]
    by_cases c2 : 1 ≤ r ∧ r ≤ 9
    · rw [if_pos c2, if_pos c2]
      refine bOk_b3 (x_keep h.x h.h) fun sl1 hn1 hs1 hk1 => ?_
      refine bOk_b2 (x_changeRank h.x hk) fun r1 tp1 hx => bOk_s ?_
      refine bOk_b2 (f_save h.z h.r) fun rows1 sm1 hr => ?_
      rw [f_at, bw_b1_s, h.z.rK hk, bw_b1_s, bw_b1_s]
      refine bOk_b1 (h.z.wK hk r) fun z1 hz1 => ?_
      exact bOk_s ⟨.inl ⟨rfl, rfl, hx.1⟩, _, bpush s H, hx.2, hk1, hz1, hr, (h.i.rank hk c2).bc (by omega) (by omega), h.hp⟩
    · rw [if_neg c2, if_neg c2]
      exact bOk_s (bOk_s ⟨.inr ⟨by simp, by simp, by simp [bk12], by simp [bk12]⟩, h.same⟩)
  · rw [if_neg c1, if_neg c1, thn1 _ _ _ (by omega)]
    exact bOk_s (bOk_s ⟨.inr ⟨by simp, by simp, by simp [bk12], by simp [bk12]⟩, h.same⟩)
theorem f_greatest {i : Nat} (hi : i < 3) : fX5_greatestValue (iv i) = some (iv (if i = 0 then 2 else 100)) := by
  have hc : i = 0 ∨ i = 1 ∨ i = 2 := by omega
  rcases hc with rfl | rfl | rfl <;> rfl
theorem op_set (h : bDK s H f b d sl hn hs z rows sm) (th p1 p2 : Int32) : bOk (fX5_set d sl hn hs p1 p2) fun c => bOk (fX6_set z rows sm th p1 p2) fun m => bAg bk12 c.1 c.2.1 m.1 m.2.2.2.2 ∧ ∃ s' H', bDK s' H' (f + 600) (b + 310000) c.2.2.1 c.2.2.2.1 c.2.2.2.2.1 c.2.2.2.2.2 m.2.1 m.2.2.1 m.2.2.2.1 := by
  have hp1 := r32_of p1
  have hp2 := r32_of p2
  rw [← iv_of p1, ← iv_of p2]
  generalize p1.toInt = p at hp1 ⊢
  generalize p2.toInt = v at hp2 ⊢
  have a1 : fX5_isOutside (iv p) 0 (3 - 1) = some (if 0 ≤ p ∧ p ≤ 2 then 0 else 1) := f_out (l := 0) (m := 2) hp1 (r32i (by omega) (by omega)) (r32i (by omega) (by omega))
  have a2 : fX6_in (iv p) 0 2 = some (if 0 ≤ p ∧ p ≤ 2 then 1 else 0) := f_in (l := 0) (m := 2) hp1 (r32i (by omega) (by omega)) (r32i (by omega) (by omega))
  have hneed : fX5_needSetting (iv p) = some (if 0 ≤ p ∧ p ≤ 2 then 0 else 1) := by
    unfold fX5_needSetting
    rw [a1, bw_b1_s, ite_01]
    split <;> rfl
  unfold fX5_set fX6_set fX6_fails jX6_set_32
  simp only [hneed, a2, bw_b1_s, bw_b2_s, ite_10]
  by_cases c1 : 0 ≤ p ∧ p ≤ 2
  · rw [if_pos c1, if_pos c1, thn0]
    obtain ⟨i, rfl, hi⟩ : ∃ i : Nat, p = i ∧ i < 3 := ⟨p.toNat, by omega, by omega⟩
    generalize hg : (if i = 0 then (2 : Int) else 100) = g
    have hgr : g ≤ 100 ∧ 2 ≤ g := by rw [← hg]; split <;> omega
    have a3 : fX5_isOutside (iv v) 0 (iv g) = some (if 0 ≤ v ∧ v ≤ g then 0 else 1) := f_out (l := 0) hp2 (r32i (by omega) (by omega)) (r32i (by omega) (by omega))
    have a4 : fX6_in (iv v) 0 (iv g) = some (if 0 ≤ v ∧ v ≤ g then 1 else 0) := f_in (l := 0) hp2 (r32i (by omega) (by omega)) (r32i (by omega) (by omega))
    rw [f_greatest hi, bw_b1_s, hg, a3, bw_b1_s, ite_01]
    have key : ∀ X : Int32, X = iv g → bOk (if 0 ≤ v ∧ v ≤ g then bw_b3 (fX1_keep d sl hn hs) fun sl_34 hn_34 hs_34 => bw_b2 (fX0_changeSetting (d 3) (iv i) (iv v)) fun r43 ts_43 => bw_let (va_up d 3 ts_43) fun d_43 => some (0, r43, d_43, sl_34, hn_34, hs_34) else some (2, 0, d, sl, hn, hs)) fun c => bOk (bw_b1 (fX6_in (iv v) 0 X) fun r32 => if r32 = 0 then bw_b2 (fX6_fails 0 2) fun r40 th_40 => some (r40, z, rows, sm, th_40) else bw_b2 (fX6_save z rows sm) fun rows_45 sm_45 => bw_b1 (bw_rd 444 z (3 + iv i)) fun v55 => bw_b1 (bw_wr 444 z (3 + iv i) (iv v)) fun z_65 => some (v55, z_65, rows_45, sm_45, 0)) fun m => bAg bk12 c.1 c.2.1 m.1 m.2.2.2.2 ∧ ∃ s' H', bDK s' H' (f + 600) (b + 310000) c.2.2.1 c.2.2.2.1 c.2.2.2.2.1 c.2.2.2.2.2 m.2.1 m.2.2.1 m.2.2.2.1 := by
      intro X hX
      subst hX
      rw [a4, bw_b1_s, ite_10]
      by_cases c2 : 0 ≤ v ∧ v ≤ g
      · rw [if_pos c2, if_pos c2]
        refine bOk_b3 (x_keep h.x h.h) fun sl1 hn1 hs1 hk1 => ?_
        refine bOk_b2 (x_changeSetting h.x hi) fun r1 ts1 hx => bOk_s ?_
        refine bOk_b2 (f_save h.z h.r) fun rows1 sm1 hr => ?_
        rw [h.z.rS hi, bw_b1_s]
        refine bOk_b1 (h.z.wS hi v) fun z1 hz1 => ?_
        exact bOk_s ⟨.inl ⟨rfl, rfl, hx.1⟩, _, bpush s H, hx.2, hk1, hz1, hr, (h.i.set (fun q => by rw [if_pos q] at hg; omega) (fun q => by omega)).bc (by omega) (by omega), h.hp⟩
      · rw [if_neg c2, if_neg c2]
        exact bOk_s (bOk_s ⟨.inr ⟨by simp, by simp, by simp [bk12], by simp [bk12]⟩, h.same⟩)
    by_cases q : i = 0
    · rw [if_pos (show iv (i : Int) = 0 by subst q; rfl)]
      exact key 2 (by rw [← hg, if_pos q]; rfl)
    · rw [if_neg (show ¬iv (i : Int) = 0 by rw [show (0 : Int32) = iv 0 from rfl, iv_eq (by omega) (by omega) (by omega) (by omega)]; omega)]
      exact key 100 (by rw [← hg, if_neg q]; rfl)
  · rw [if_neg c1, if_neg c1, thn1 _ _ _ (by omega)]
    exact bOk_s (bOk_s ⟨.inr ⟨by simp, by simp, by simp [bk12], by simp [bk12]⟩, h.same⟩)
theorem x_need (h : bRD d s) {k : Nat} (hk : k < s.1) (hi : bIn s f b) : fX0_hasNextTask (d 0) (iv k) = some (if s.2.1 k 7 = 1 ∧ s.2.1 k 6 < s.2.1 k 5 then 1 else 0) := by
  have h6 := bRX.n6 h
  have hmn := hi.mn k hk
  exact x_hasNext (bRX.x h).t (k := k) (by omega) (o := s.2.1 k 7) rfl (hi.m.op k hk) (m := s.2.1 k 5) rfl (d := s.2.1 k 6) rfl (r32i (by omega) (by omega)) (r32i (by omega) (by omega))
theorem z_may (h : bRZ z s) {k : Nat} (hk : k < s.1) (hi : bIn s f b) : fX6_mayDo z (iv k) = some (if s.2.1 k 7 = 1 ∧ s.2.1 k 6 < s.2.1 k 5 then 1 else 0) := by
  have hmn := hi.mn k hk
  exact f_mayDo h hk (hi.m.op k hk) (r32i (by omega) (by omega)) (r32i (by omega) (by omega))
theorem btn_pl (hi : bIn s f b) {k : Nat} (hk : k < s.1) (h65 : s.2.1 k 6 < s.2.1 k 5) : 1 ≤ s.2.1 k (10 + btn s k) ∧ s.2.1 k (10 + btn s k) ≤ 60 := by
  have hmn := hi.mn k hk
  exact hi.pl k hk (btn s k) (by unfold btn; omega)
theorem f_needDays {v : Int} (hv : r32 v) : fX5_needDaysTaken (iv v) = some (if 0 ≤ v ∧ v ≤ 300 then 0 else 2) := by
  have a1 : fX5_isOutside (iv v) 0 300 = some (if 0 ≤ v ∧ v ≤ 300 then 0 else 1) := f_out (l := 0) (m := 300) hv (r32i (by omega) (by omega)) (r32i (by omega) (by omega))
  unfold fX5_needDaysTaken
  rw [a1, bw_b1_s, ite_01]
  split <;> rfl
theorem op_done (h : bDK s H f b d sl hn hs z rows sm) (hf : 0 ≤ f ∧ f ≤ 310000) (hb : b ≤ 200000000) (th p1 p2 : Int32) (od : bw_A1) (om ow ca bo la : Int32) : bOk (fX5_done d sl hn hs p1 p2) fun c => bOk (fX6_done z rows sm th od om ow ca bo la p1 p2) fun m => bAg bkI c.1 c.2.1 m.1 m.2.2.2.2.1 ∧ ∃ s' H', bDK s' H' (f + 600) (b + 310000) c.2.2.1 c.2.2.2.1 c.2.2.2.2.1 c.2.2.2.2.2 m.2.1 m.2.2.1 m.2.2.2.1 := by
  have h6 := h.np6
  have hp1 := r32_of p1
  have hp2 := r32_of p2
  rw [← iv_of p1, ← iv_of p2]
  generalize p1.toInt = p at hp1 ⊢
  generalize p2.toInt = days at hp2 ⊢
  have a2 : fX6_in (iv days) 0 300 = some (if 0 ≤ days ∧ days ≤ 300 then 1 else 0) := f_in (l := 0) (m := 300) hp2 (r32i (by omega) (by omega)) (r32i (by omega) (by omega))
  unfold fX5_done fX6_done fX6_fails
  simp only [f_needProject h.x hp1, f_isProject h.z hp1, f_needDays hp2, a2, bw_b1_s, bw_b2_s, ite_10]
  by_cases c1 : 0 ≤ p ∧ p ≤ (s.1 : Int) - 1
  · obtain ⟨k, rfl, hk⟩ := isP c1
    rw [if_pos c1, if_pos c1, thn0]
    by_cases c2 : 0 ≤ days ∧ days ≤ 300
    · rw [if_pos c2, if_pos c2, thn0, x_need h.x hk h.i, bw_b1_s, ite_10, z_may h.z hk h.i, bw_b1_s, ite_10]
      by_cases c3 : s.2.1 k 7 = 1 ∧ s.2.1 k 6 < s.2.1 k 5
      · rw [if_pos c3, if_pos c3]
        have hmn := h.i.mn k hk
        have hpl := btn_pl h.i hk c3.2
        refine bOk_b3 (x_keep h.x h.h) fun sl1 hn1 hs1 hk1 => ?_
        refine bOk_b6 (x_doNext h.x h.i.m (by omega) (by omega) hk c3.1 c2 (by omega) hpl) fun r1 tp1 tk1 tl1 tq1 nl1 hx => bOk_s ?_
        refine bOk_b2 (f_save h.z h.r) fun rows1 sm1 hr => ?_
        refine bOk_b7 (f_doNow h.z h.i.m (by omega) (by omega) hk c2 (by omega) hpl) fun z1 od1 om1 ow1 ca1 bo1 la1 hz1 => ?_
        obtain ⟨hz1, q1, q2, q3, q4⟩ := hz1
        exact bOk_s ⟨.inl ⟨rfl, rfl, hx.1.trans q4.symm⟩, bdo s k days, bpush s H, hx.2, hk1, hz1, hr, (h.i.do (by omega) hk c3.1 c3.2 c2).bc (by omega) (by omega), h.hp⟩
      · rw [if_neg c3, if_neg c3]
        exact bOk_s (bOk_s ⟨.inr ⟨by simp, by simp, by simp [bkI], by simp [bkI]⟩, h.same⟩)
    · rw [if_neg c2, if_neg c2, thn1 _ _ _ (by omega)]
      exact bOk_s (bOk_s ⟨.inr ⟨by simp, by simp, by simp [bkI], by simp [bkI]⟩, h.same⟩)
  · rw [if_neg c1, if_neg c1, thn1 _ _ _ (by omega)]
    exact bOk_s (bOk_s ⟨.inr ⟨by simp, by simp, by simp [bkI], by simp [bkI]⟩, h.same⟩)
end
