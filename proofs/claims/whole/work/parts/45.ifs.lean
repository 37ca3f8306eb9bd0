/- needs: 44.ops4 -/
/-! ===== what would be ===== -/
/-- a project has a next task to do -/
abbrev bmd (s : bSt) (k : Nat) : Prop := s.2.1 k 7 = 1 ∧ s.2.1 k 6 < s.2.1 k 5
def bifd (s : bSt) (k : Nat) (days : Int) (c : Nat) : Int := if c = 0 then bdla s k days else if c = 1 then bdbo s k days else if c = 2 then bdca s k days else if c = 3 then (bdo s k days).2.2.1 k else bowed k (bdo s k days).2.2.2.1
section
variable {s : bSt} {f b : Int} {d t : Nat → Nat → Int32} {z asd od : Nat → Int32} {om ow ca bo la : Int32}
theorem bdB_ch {s : bSt} {k : Nat} {days : Int} : (bdB s k days).2.1 k (26 + 4 * btn s k + 1) = bdca s k days ∧ (bdB s k days).2.1 k (26 + 4 * btn s k + 2) = bdbo s k days ∧ (bdB s k days).2.1 k (26 + 4 * btn s k + 3) = bdla s k days := by
  have e : ∀ c, (bdB s k days).2.1 k c = bdP (bdA s k days).2.1 k (btn s k) (bdow s k days) (bdca s k days) (bdbo s k days) (bdla s k days) (s.2.1 k 6 + 1) k c := fun c => rfl
  refine ⟨?_, ?_, ?_⟩
  · rw [e]; unfold bdP; rw [up2_c _ _ _ _ (by omega), up2_c _ _ _ _ (by omega), up2_c _ _ _ _ (by omega), up2_self]
  · rw [e]; unfold bdP; rw [up2_c _ _ _ _ (by omega), up2_c _ _ _ _ (by omega), up2_self]
  · rw [e]; unfold bdP; rw [up2_c _ _ _ _ (by omega), up2_self]
theorem x_try (h : bDL s f b d z) {k : Nat} (hk : k < s.1) {days : Int} (hd : 0 ≤ days ∧ days ≤ 300) : bOk (fX5_tryNextTask d t (iv k) (iv days)) fun r => (bmd s k ∧ r.1 = 1 ∧ bRD r.2 (bdo s k days)) ∨ (¬bmd s k ∧ r.1 = 0) := by
  have hb := h.2.2.2.2.2
  have hf := h.2.2.2.2.1
  have hfl := h.fl
  have hmn := h.I.mn k hk
  unfold fX5_tryNextTask
  rw [x_need h.1 hk h.I, bw_b1_s, ite_10]
  by_cases c : s.2.1 k 7 = 1 ∧ s.2.1 k 6 < s.2.1 k 5
  · rw [if_pos c, bw_let_s]
    have hcp : bRD (bw_cpD t d) s := bRD.cp h.1
    refine bOk_b6 (x_doNext hcp h.I.m (by omega) (by omega) hk c.1 hd (by omega) (btn_pl h.I hk c.2)) fun r1 tp1 tk1 tl1 tq1 nl1 hx => ?_
    rw [bw_let_s]
    exact bOk_s (.inl ⟨c, rfl, hx.2⟩)
  · rw [if_neg c]
    exact bOk_s (.inr ⟨c, rfl⟩)
theorem x_result (h : bIn s f b) {k : Nat} (hk : k < s.1) (hm : bmd s k) {days : Int} (ht : bRD t (bdo s k days)) {c : Nat} (hc : c < 5) : fX5_resultOfTrial t (iv k) (iv c) = some (iv (bifd s k days c)) := by
  have hmn := h.mn k hk
  have hk' : k < (bdo s k days).1 := by rw [bdo_np]; exact hk
  have hu8 : btn s k < 8 := by unfold btn; have := hm.2; omega
  have e8 : bT (bTP (bdo s k days).2.1) (bdo s k days).2.2.1 (bdo s k days).2.2.2.1 k 8 = (btn s k : Int) + 1 := by
    show (bdo s k days).2.1 k 6 = _
    rw [bdo_P, bdB_P6]
    unfold btn
    omega
  have hch := bdB_ch (s := s) (k := k) (days := days)
  have p5 : fX0_taskPart (t 1) (iv k) (iv (btn s k)) 5 = some (iv (bdla s k days)) := by
    have := x_taskPart ht hk' hu8 (c := 5) (by omega)
    rw [show (bdo s k days).2.1 k (bkc (btn s k) 5) = bdla s k days by rw [bdo_P]; exact hch.2.2] at this
    exact this
  have p4 : fX0_taskPart (t 1) (iv k) (iv (btn s k)) 4 = some (iv (bdbo s k days)) := by
    have := x_taskPart ht hk' hu8 (c := 4) (by omega)
    rw [show (bdo s k days).2.1 k (bkc (btn s k) 4) = bdbo s k days by rw [bdo_P]; exact hch.2.1] at this
    exact this
  have p3 : fX0_taskPart (t 1) (iv k) (iv (btn s k)) 3 = some (iv (bdca s k days)) := by
    have := x_taskPart ht hk' hu8 (c := 3) (by omega)
    rw [show (bdo s k days).2.1 k (bkc (btn s k) 3) = bdca s k days by rw [bdo_P]; exact hch.1] at this
    exact this
  have q2 : fX0_projectPart (t 0) (t 3) (iv k) 2 = some (iv ((bdo s k days).2.2.1 k)) := x_part ht hk' 2 (by omega) (by omega)
  have q4 : fX0_projectPart (t 0) (t 3) (iv k) 4 = some (iv (bowed k (bdo s k days).2.2.2.1)) := x_part ht hk' 4 (by omega) (by omega)
  unfold fX5_resultOfTrial
  rw [x_part ht hk' 8 (by omega) (by omega), bw_b1_s, e8, bw_let_s, show (1 : Int32) = iv 1 from rfl, iv_sub, show ((btn s k : Int) + 1 - 1) = btn s k by omega, p5, p4, p3, q2, q4]
  have hc2 : c = 0 ∨ c = 1 ∨ c = 2 ∨ c = 3 ∨ c = 4 := by omega
  rcases hc2 with rfl | rfl | rfl | rfl | rfl <;> rfl
theorem f_doneOf (h : bDL s f b d z) {k : Nat} (hk : k < s.1) {days : Int} (hd : 0 ≤ days ∧ days ≤ 300) {c : Nat} (hc : c < 5) : bOk (fX6_doneOf z asd od om ow ca bo la (iv k) (iv days) (iv c)) fun r => ((bmd s k ∧ r.1 = iv (bifd s k days c)) ∨ (¬bmd s k ∧ r.1 = iv (-1))) ∧ bRZ r.2.1 s := by
  have hb := h.2.2.2.2.2
  have hf := h.2.2.2.2.1
  have hfl := h.fl
  have hmn := h.I.mn k hk
  unfold fX6_doneOf
  rw [z_may h.Z hk h.I, bw_b1_s, ite_10]
  by_cases cm : s.2.1 k 7 = 1 ∧ s.2.1 k 6 < s.2.1 k 5
  · rw [if_pos cm]
    obtain ⟨a', e1, e2⟩ := f_putAside z asd
    rw [e1, bw_b1_s]
    refine bOk_b7 (f_doNow h.Z h.I.m (by omega) (by omega) hk hd (by omega) (btn_pl h.I hk cm.2)) fun z1 od1 om1 ow1 ca1 bo1 la1 hz1 => ?_
    obtain ⟨hz1, q1, q2, q3, q4⟩ := hz1
    dsimp only at q1 q2 q3 q4
    subst q1 q2 q3 q4
    have hz1' : bRZ z1 (bdo s k days) := hz1
    have hk' : k < (bdo s k days).1 := by rw [bdo_np]; exact hk
    have hI' := h.I.do (by omega) hk cm.1 cm.2 hd
    have key : ∀ v : Int, bOk (jX6_doneOf_79 z1 a' od1 om1 (iv (bdow s k days)) (iv (bdca s k days)) (iv (bdbo s k days)) (iv (bdla s k days)) (iv v)) fun r => r.1 = iv v ∧ bRZ r.2.1 s := by
      intro v
      unfold jX6_doneOf_79
      obtain ⟨z2, e3, e4⟩ := f_putBack z1 a'
      rw [e3, bw_b1_s]
      have hz2 : bRZ z2 s := h.Z.congr fun j hj => by rw [e4 j hj, e2 j hj]
      exact bOk_s ⟨rfl, hz2⟩
    have h6 := hz1'.n6
    rw [f_at, bw_b1_s, hz1'.rF hk', bw_b1_s, f_owedBy hz1' hI'.m.w.lok (by omega), bw_b1_s]
    have hc2 : c = 0 ∨ c = 1 ∨ c = 2 ∨ c = 3 ∨ c = 4 := by omega
    rcases hc2 with rfl | rfl | rfl | rfl | rfl
    · rw [if_pos (by decide)]; exact bOk_m (key _) fun r hr => ⟨.inl ⟨cm, hr.1⟩, hr.2⟩
    · rw [if_neg (by decide), if_pos (by decide)]; exact bOk_m (key _) fun r hr => ⟨.inl ⟨cm, hr.1⟩, hr.2⟩
    · rw [if_neg (by decide), if_neg (by decide), if_pos (by decide)]; exact bOk_m (key _) fun r hr => ⟨.inl ⟨cm, hr.1⟩, hr.2⟩
    · rw [if_neg (by decide), if_neg (by decide), if_neg (by decide), if_pos (by decide)]; exact bOk_m (key _) fun r hr => ⟨.inl ⟨cm, hr.1⟩, hr.2⟩
    · rw [if_neg (by decide), if_neg (by decide), if_neg (by decide), if_neg (by decide)]; exact bOk_m (key _) fun r hr => ⟨.inl ⟨cm, hr.1⟩, hr.2⟩
  · rw [if_neg cm]
    exact bOk_s ⟨.inr ⟨cm, rfl⟩, h.Z⟩
theorem op_ifDone (h : bDL s f b d z) (th p1 p2 p3 : Int32) : bOk (fX5_ifDone d t p1 p2 p3) fun c => bOk (fX6_ifDone z asd th od om ow ca bo la p1 p2 p3) fun m => bAg bk12 c.1 c.2.1 m.1 m.2.2.2.1 ∧ bRZ m.2.1 s := by
  have hp1 := r32_of p1
  have hp2 := r32_of p2
  have hp3 := r32_of p3
  rw [← iv_of p1, ← iv_of p2, ← iv_of p3]
  generalize p1.toInt = p at hp1 ⊢
  generalize p2.toInt = days at hp2 ⊢
  generalize p3.toInt = c at hp3 ⊢
  have a1 : fX5_isOutside (iv c) 0 4 = some (if 0 ≤ c ∧ c ≤ 4 then 0 else 1) := f_out (l := 0) (m := 4) hp3 (r32i (by omega) (by omega)) (r32i (by omega) (by omega))
  have a2 : fX6_in (iv c) 0 4 = some (if 0 ≤ c ∧ c ≤ 4 then 1 else 0) := f_in (l := 0) (m := 4) hp3 (r32i (by omega) (by omega)) (r32i (by omega) (by omega))
  have a3 : fX6_in (iv days) 0 300 = some (if 0 ≤ days ∧ days ≤ 300 then 1 else 0) := f_in (l := 0) (m := 300) hp2 (r32i (by omega) (by omega)) (r32i (by omega) (by omega))
  unfold fX5_ifDone fX6_ifDone jX6_ifDone_49 fX6_fails
  simp only [f_needProject h.1 hp1, f_isProject h.Z hp1, f_needDays hp2, a1, a2, a3, bw_b1_s, bw_b2_s, ite_10, ite_01]
  have bad : ∀ e : Nat, e = 1 ∨ e = 2 → bOk (some (e, (0 : Int32), t)) fun c => bOk (some ((0 : Int32), z, asd, bk12 e, od, om, ow, ca, bo, la)) fun m => bAg bk12 c.1 c.2.1 m.1 m.2.2.2.1 ∧ bRZ m.2.1 s := by
    intro e he
    refine bOk_s (bOk_s ⟨.inr ?_, h.Z⟩)
    rcases he with rfl | rfl <;> refine ⟨by simp, by simp, rfl, by simp [bk12]⟩
  by_cases c1 : 0 ≤ p ∧ p ≤ (s.1 : Int) - 1
  · obtain ⟨k, rfl, hk⟩ := isP c1
    rw [if_pos c1, if_pos c1, thn0]
    by_cases c2 : 0 ≤ days ∧ days ≤ 300
    · rw [if_pos c2, if_pos c2, thn0]
      by_cases c3 : 0 ≤ c ∧ c ≤ 4
      · obtain ⟨e, rfl, he⟩ := isN c3
        rw [if_pos c3, if_pos c3]
        refine bOk_b2 (x_try h hk c2) fun r1 t1 hx => ?_
        rcases hx with ⟨hm, q1, q2⟩ | ⟨hm, q1⟩
        · dsimp only at q1 q2
          subst q1
          rw [if_neg (by decide), x_result h.I hk hm q2 (by omega), bw_b1_s]
          refine bOk_s (bOk_b9 (f_doneOf h hk c2 (c := e) (by omega)) fun r2 z2 _ _ _ _ _ _ _ h2 => bOk_s ⟨?_, h2.2⟩)
          rcases h2.1 with ⟨_, q⟩ | ⟨q, _⟩
          · exact .inl ⟨rfl, rfl, q.symm⟩
          · exact absurd hm q
        · dsimp only at q1
          subst q1
          rw [if_pos rfl]
          refine bOk_s (bOk_b9 (f_doneOf h hk c2 (c := e) (by omega)) fun r2 z2 _ _ _ _ _ _ _ h2 => bOk_s ⟨?_, h2.2⟩)
          rcases h2.1 with ⟨q, _⟩ | ⟨_, q⟩
          · exact absurd q hm
          · exact .inl ⟨rfl, rfl, q.symm⟩
      · rw [if_neg c3, if_neg c3]
        exact bad 2 (by omega)
    · rw [if_neg c2, if_neg c2, thn1 _ _ _ (by omega)]
      exact bad 2 (by omega)
  · rw [if_neg c1, if_neg c1, thn1 _ _ _ (by omega)]
    exact bad 1 (by omega)
end
