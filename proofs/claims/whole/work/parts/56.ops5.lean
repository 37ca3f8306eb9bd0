/- needs: 55.begin -/
/-! ===== texts: the calls ===== -/
section
variable {s : bSt} {H : List bSt} {f b : Int} {d : Nat → Nat → Int32} {sl : Nat → Nat → Nat → Int32} {hn hs : Int32} {z rows : Nat → Int32} {sm : Int32} {cs buf : Nat → Int32} {ln bm : Int32} {C : List Int}
theorem op_append (hx : bTX cs ln C) (hz : bTX buf bm C) (th p1 : Int32) : bOk (fX5_append cs ln p1) fun c => bOk (fX6_append buf bm th p1) fun m => bAg (fun e => if e = 2 then 1 else if e = 3 then 2 else 0) c.1 c.2.1 m.1 m.2.2.2 ∧ ∃ C', bTX c.2.2.1 c.2.2.2 C' ∧ bTX m.2.1 m.2.2.1 C' := by
  have hp1 := r32_of p1
  rw [← iv_of p1]
  generalize p1.toInt = c at hp1 ⊢
  obtain ⟨x1, x2, x3, x4⟩ := hx
  obtain ⟨z1, z2, z3, z4⟩ := hz
  have a1 : fX5_isOutside (iv c) 33 126 = some (if 33 ≤ c ∧ c ≤ 126 then 0 else 1) := f_out (l := 33) (m := 126) hp1 (r32i (by omega) (by omega)) (r32i (by omega) (by omega))
  have a2 : fX6_in (iv c) 33 126 = some (if 33 ≤ c ∧ c ≤ 126 then 1 else 0) := f_in (l := 33) (m := 126) hp1 (r32i (by omega) (by omega)) (r32i (by omega) (by omega))
  unfold fX5_append fX6_append fX4_length fX4_add fX6_fails
  simp only [a1, a2, bw_b1_s, bw_b2_s, ite_10, ite_01]
  by_cases c1 : 33 ≤ c ∧ c ≤ 126
  · rw [if_pos c1, if_pos c1, x1, z1, show (60 : Int32) = iv 60 from rfl, ite_lt (r32n (by omega)) (r32i (by omega) (by omega)), ite_iv (r32n (by omega)) (r32i (by omega) (by omega))]
    by_cases c2 : (C.length : Int) < 60
    · rw [if_pos c2, if_neg (show ¬iv (C.length : Int) < 0 by rw [show (0 : Int32) = iv 0 from rfl, iv_lt (by omega) (by omega) (by omega) (by omega)]; omega), if_neg (show ¬iv 60 ≤ iv (C.length : Int) by rw [iv_le (by omega) (by omega) (by omega) (by omega)]; omega), if_neg (show ¬(C.length : Int) = 60 by omega), iv_wr (by omega) (by omega) (by omega), bw_b1_s, bw_let_s, iv_wr (by omega) (by omega) (by omega), bw_b1_s, bw_let_s, iv_succ, bw_b2s]
      refine bOk_s (bOk_s ⟨.inl ⟨rfl, rfl, rfl⟩, C ++ [c], ⟨by rw [len_snoc], by rw [len_snoc]; omega, fun i hi => ?_, fun y hy => ?_⟩, ⟨by rw [len_snoc], by rw [len_snoc]; omega, fun i hi => ?_, fun y hy => ?_⟩⟩)
      · rw [len_snoc] at hi
        show upd cs (C.length : Int).toNat (iv c) i = _
        rw [Int.toNat_natCast]
        by_cases q : i < C.length
        · rw [upd_ne _ _ (by omega), List.getElem_append_left q]; exact x3 i q
        · have : i = C.length := by omega
          subst this
          rw [upd_self]; simp
      · rcases List.mem_append.mp hy with hy | hy
        · exact x4 y hy
        · rw [List.mem_singleton] at hy; subst hy; exact c1
      · rw [len_snoc] at hi
        show upd buf (C.length : Int).toNat (iv c) i = _
        rw [Int.toNat_natCast]
        by_cases q : i < C.length
        · rw [upd_ne _ _ (by omega), List.getElem_append_left q]; exact z3 i q
        · have : i = C.length := by omega
          subst this
          rw [upd_self]; simp
      · rcases List.mem_append.mp hy with hy | hy
        · exact x4 y hy
        · rw [List.mem_singleton] at hy; subst hy; exact c1
    · rw [if_neg c2, if_pos (by omega)]
      exact bOk_s (bOk_s ⟨.inr ⟨by simp, by simp, by simp, by simp⟩, C, ⟨rfl, x2, x3, x4⟩, ⟨rfl, z2, z3, z4⟩⟩)
  · rw [if_neg c1, if_neg c1]
    exact bOk_s (bOk_s ⟨.inr ⟨by simp, by simp, by simp, by simp⟩, C, ⟨x1, x2, x3, x4⟩, ⟨z1, z2, z3, z4⟩⟩)
theorem op_clear (hx : bTX cs ln C) (hz : bTX buf bm C) (th : Int32) : bOk (fX5_clearBuffer ln) fun c => bOk (fX6_clearBuffer bm th) fun m => c.1 = m.1 ∧ m.2.2 = 0 ∧ bTX cs c.2 [] ∧ bTX buf m.2.1 [] := by
  have e : ∀ q : Nat → Int32, bTX q 0 [] := fun q => ⟨rfl, by simp, fun i hi => by simp at hi, fun c hc => by cases hc⟩
  unfold fX5_clearBuffer fX6_clearBuffer fX4_length fX4_wipe
  rw [bw_b1_s, bw_b1_s]
  exact bOk_s (bOk_s ⟨hx.1.trans hz.1.symm, rfl, e _, e _⟩)
/-- the number of projects in a text -/
theorem x_projectsInPlan (h : bTX cs ln C) : ∀ (suf pre : List Int) (n : Nat) (x : Int), C = pre ++ suf → suf.length < n → lX4_projectsInPlan_4 cs ln n (iv x) (iv pre.length) = some (iv (x + bc59 suf)) := by
  obtain ⟨h1, h2, h3, h4⟩ := h
  intro suf
  induction suf with
  | nil =>
    intro pre n x hC hn
    cases n with
    | zero => omega
    | succ n =>
      have hl : C.length = pre.length := by rw [hC]; simp
      show bX4_projectsInPlan_4 (lX4_projectsInPlan_4 cs ln n) cs ln (iv x) (iv pre.length) = _
      unfold bX4_projectsInPlan_4
      rw [h1, ite_le (r32n (by omega)) (r32n (by omega)), if_pos (by omega)]
      show _ = some (iv (x + 0))
      rw [Int.add_zero]
  | cons c cs' ih =>
    intro pre n x hC hn
    cases n with
    | zero => simp at hn
    | succ n =>
      rw [List.length_cons] at hn
      have hl : C.length = pre.length + (cs'.length + 1) := by rw [hC]; simp
      have hg : C[pre.length]'(by omega) = c := by simp [hC]
      have hcr := h4 c (by rw [hC]; simp)
      show bX4_projectsInPlan_4 (lX4_projectsInPlan_4 cs ln n) cs ln (iv x) (iv pre.length) = _
      unfold bX4_projectsInPlan_4 jX4_projectsInPlan_25
      rw [if_neg (by rw [h1, iv_le (by omega) (by omega) (by omega) (by omega)]; omega), x_codeAt ⟨h1, h2, h3, h4⟩ (i := pre.length) (by omega), bw_b1_s, hg, show (59 : Int32) = iv 59 from rfl, ite_iv (r32i (by omega) (by omega)) (r32i (by omega) (by omega))]
      simp only [bw_let_s]
      rw [show (1 : Int32) = iv 1 from rfl, iv_add, iv_add]
      have e1 : bc59 (c :: cs') = (if c = 59 then 1 else 0) + bc59 cs' := rfl
      have i1 := fun y => ih (pre ++ [c]) n y (by rw [hC]; simp) (by omega)
      rw [len_snoc] at i1
      have e2 : iv ((pre.length : Int) + 1) = iv ((pre.length + 1 : Nat) : Int) := by congr 1
      rw [e2, i1, i1, e1]
      by_cases q : c = 59
      · rw [if_pos q, if_pos q]; congr 2; omega
      · rw [if_neg q, if_neg q]; congr 2; omega
/-- the reference begins the projects that it read -/
theorem l_plans {rd : Nat → Int32} {k46 : bw_A1 → Int32 → Option (Int32 × bw_A1 × bw_A1 × Int32 × Int32 × Int32 × Int32 × Int32 × bw_A1)} {rows : Nat → Int32} {sm bm th pl to : Int32} {k : Nat} (hk : k ≤ 8) {ts : List Int} (h8 : ts.length ≤ 8) (hg : bgood ts) (hn : rd (11 * k + 2) = iv ts.length) (ht : ∀ (t : Nat) (h : t < ts.length), rd (11 * k + 3 + t) = iv ts[t]) : ∀ (suf pre : List Int) (n : Nat) (z : Nat → Int32) (s : bSt) (f : Int), ts = pre ++ suf → suf.length < n → bRZ z s → bIn s f b → 1 ≤ s.1 → s.2.1 (s.1 - 1) 5 = (pre.length : Int) → ∃ z', lX6_openAll_79 k46 rows sm buf bm th pl to rd (iv k) (iv ((11 * k : Nat) : Int)) n z (iv pre.length) = k46 z' (iv ((k + 1 : Nat) : Int)) ∧ bRZ z' (bplns s suf) ∧ bIn (bplns s suf) f b := by
  intro suf
  induction suf with
  | nil =>
    intro pre n z s f hts hn1 hz hi h1 h5
    cases n with
    | zero => omega
    | succ n =>
      have hl : ts.length = pre.length := by rw [hts]; simp
      refine ⟨z, ?_, hz, hi⟩
      show bX6_openAll_79 k46 (lX6_openAll_79 k46 rows sm buf bm th pl to rd (iv k) (iv ((11 * k : Nat) : Int)) n) rows sm buf bm th pl to rd (iv k) (iv ((11 * k : Nat) : Int)) z (iv pre.length) = _
      unfold bX6_openAll_79
      rw [show (2 : Int32) = iv 2 from rfl, iv_add, rd110 (i := 11 * k + 2) (by omega) (by omega), bw_b1_s, hn, ite_le (r32n (by omega)) (r32n (by omega)), if_pos (by omega), bw_let_s, iv_succ]
  | cons v vs ih =>
    intro pre n z s f hts hn1 hz hi h1 h5
    cases n with
    | zero => simp at hn1
    | succ n =>
      rw [List.length_cons] at hn1
      have hl : ts.length = pre.length + (vs.length + 1) := by rw [hts]; simp
      have hge : ts[pre.length]'(by omega) = v := by simp [hts]
      have hv := hg v (by rw [hts]; simp)
      have h6 := hz.n6
      have hmn := hi.mn (s.1 - 1) (by omega)
      have hI := hi.plan (k := s.1 - 1) (by omega) (by omega) (days := v) hv
      obtain ⟨z1, e1, e2⟩ := f_planNow hz (k := s.1 - 1) (by omega) (by omega) (days := v)
      obtain ⟨z2, e3, e4, e5⟩ := ih (pre ++ [v]) n z1 (bpln s (s.1 - 1) v) f (by rw [hts]; simp) (by omega) e2 hI h1 (by rw [len_snoc]; show (bpln s (s.1 - 1) v).2.1 (s.1 - 1) 5 = _; rw [bpln_5, h5]; omega)
      refine ⟨z2, ?_, e4, e5⟩
      show bX6_openAll_79 k46 (lX6_openAll_79 k46 rows sm buf bm th pl to rd (iv k) (iv ((11 * k : Nat) : Int)) n) rows sm buf bm th pl to rd (iv k) (iv ((11 * k : Nat) : Int)) z (iv pre.length) = _
      have ht1 := ht pre.length (by omega)
      rw [hge] at ht1
      unfold bX6_openAll_79
      rw [show (2 : Int32) = iv 2 from rfl, iv_add, rd110 (i := 11 * k + 2) (by omega) (by omega), bw_b1_s, hn, ite_le (r32n (by omega)) (r32n (by omega)), if_neg (by omega), hz.r0, bw_b1_s, show (3 : Int32) = iv 3 from rfl, iv_add, iv_add, rd110 (i := 11 * k + 3 + pre.length) (by omega) (by omega), bw_b1_s, ht1, show (1 : Int32) = iv 1 from rfl, iv_sub, show ((s.1 : Int) - 1) = ((s.1 - 1 : Nat) : Int) by omega, e1, bw_b1_s, bw_let_s]
      rw [len_snoc] at e3
      rw [show (iv (pre.length : Int) + iv 1 : Int32) = iv ((pre.length + 1 : Nat) : Int) by rw [iv_add]; congr 1]
      exact e3
theorem l_begins {rd : Nat → Int32} {rows : Nat → Int32} {sm bm th pl : Int32} {A : List (Int × Int × List Int)} (hA6 : A.length ≤ 6) (hR : bRA rd A) (hG : ∀ a ∈ A, bgA a) : ∀ (suf pre : List (Int × Int × List Int)) (n : Nat) (z : Nat → Int32) (s : bSt) (f : Int), A = pre ++ suf → suf.length < n → bRZ z s → bIn s f b → s.1 + suf.length ≤ 6 → bOk (lX6_openAll_46 rows sm buf bm th pl (iv A.length) rd n z (iv pre.length)) fun r => r.1 = iv ((s.1 + suf.length : Nat) : Int) ∧ bRZ r.2.1 (bopns s suf) ∧ r.2.2.1 = rows ∧ r.2.2.2.1 = sm ∧ r.2.2.2.2.1 = 0 ∧ r.2.2.2.2.2.1 = th := by
  intro suf
  induction suf with
  | nil =>
    intro pre n z s f hA hn hz hi h6
    cases n with
    | zero => omega
    | succ n =>
      have hl : A.length = pre.length := by rw [hA]; simp
      show bOk (bX6_openAll_46 (lX6_openAll_46 rows sm buf bm th pl (iv A.length) rd n) rows sm buf bm th pl (iv A.length) rd z (iv pre.length)) _
      unfold bX6_openAll_46
      rw [ite_le (r32n (by omega)) (r32n (by omega)), if_pos (by omega), hz.r0, bw_b1_s]
      exact bOk_s ⟨rfl, hz, rfl, rfl, rfl, rfl⟩
  | cons a as ih =>
    intro pre n z s f hA hn hz hi h6
    cases n with
    | zero => simp at hn
    | succ n =>
      rw [List.length_cons] at hn h6
      have hl : A.length = pre.length + (as.length + 1) := by rw [hA]; simp
      have hge : A[pre.length]'(by omega) = a := by simp [hA]
      have hga := hG a (by rw [hA]; simp)
      have hr := hR pre.length (by omega) (by omega)
      rw [hge] at hr
      obtain ⟨r1, r2, r3, r4⟩ := hr
      have hzz := hi.z0 s.1 (Nat.le_refl _)
      have hI := hi.opd (by omega) hga.1 hga.2.1
      show bOk (bX6_openAll_46 (lX6_openAll_46 rows sm buf bm th pl (iv A.length) rd n) rows sm buf bm th pl (iv A.length) rd z (iv pre.length)) _
      unfold bX6_openAll_46
      rw [ite_le (r32n (by omega)) (r32n (by omega)), if_neg (by omega), bw_let_s, show (11 : Int32) = iv 11 from rfl, iv_mul, show (11 * (pre.length : Int)) = ((11 * pre.length : Nat) : Int) by omega, rd110 (i := 11 * pre.length) rfl (by omega), bw_b1_s, show (1 : Int32) = iv 1 from rfl, iv_add, rd110 (i := 11 * pre.length + 1) (by omega) (by omega), bw_b1_s, r1, r2]
      refine bOk_b1 (f_openNow hz (by omega) hzz) fun z1 hz1 => ?_
      obtain ⟨z2, e1, e2, e3⟩ := l_plans (buf := buf) (b := b) (k46 := lX6_openAll_46 rows sm buf bm th pl (iv A.length) rd n) (rows := rows) (sm := sm) (bm := bm) (th := th) (pl := pl) (to := iv A.length) (k := pre.length) (by omega) hga.2.2.2 hga.2.2.1 r3 (fun t ht => r4 t ht (by have := hga.2.2.2; omega)) a.2.2 [] bw_fu z1 (bopn s a.1 a.2.1) (f + 99) rfl (by have := hga.2.2.2; unfold bw_fu; omega) hz1 hI (by show 1 ≤ s.1 + 1; omega) (by
        show (bopn s a.1 a.2.1).2.1 (s.1 + 1 - 1) 5 = _
        rw [Nat.add_sub_cancel, bopn_5 hzz.2]
        rfl)
      have e1' : lX6_openAll_79 (lX6_openAll_46 rows sm buf bm th pl (iv A.length) rd n) rows sm buf bm th pl (iv A.length) rd (iv pre.length) (iv ((11 * pre.length : Nat) : Int)) bw_fu z1 0 = lX6_openAll_46 rows sm buf bm th pl (iv A.length) rd n z2 (iv ((pre.length + 1 : Nat) : Int)) := e1
      rw [e1']
      have hs1 : (bplns (bopn s a.1 a.2.1) a.2.2).1 = s.1 + 1 := bplns_1 _ _
      have := ih (pre ++ [a]) n z2 (bplns (bopn s a.1 a.2.1) a.2.2) (f + 99) (by rw [hA]; simp) (by omega) e2 e3 (by rw [hs1]; omega)
      rw [len_snoc, hs1] at this
      refine bOk_m this fun r hr => ⟨?_, hr.2⟩
      rw [hr.1, List.length_cons]
      congr 2
      omega
def bkO (e : Nat) : Int32 := if e = 2 then 1 else if e = 3 then 2 else 0
theorem op_beginAll (h : bDK s H f b d sl hn hs z rows sm) (hf : 0 ≤ f) (hx : bTX cs ln C) (hz : bTX buf bm C) {rp rn rt : Int32} {t : Nat} (ht : rt = iv t) (ht8 : t ≤ 8) (th pl to : Int32) (rd : Nat → Int32) : bOk (fX5_openAll d sl hn hs cs ln rp rn rt) fun c => bOk (fX6_openAll z rows sm buf bm th pl to rd) fun m => bAg bkO c.1 c.2.1 m.1 m.2.2.2.2.2.1 ∧ (∃ s' H', bDK s' H' (f + 600) (b + 310000) c.2.2.1 c.2.2.2.1 c.2.2.2.2.1 c.2.2.2.2.2.1 m.2.1 m.2.2.1 m.2.2.2.1) ∧ (∃ C', bTX cs c.2.2.2.2.2.2.1 C' ∧ bTX buf m.2.2.2.2.1 C') ∧ ∃ t', t' ≤ 8 ∧ c.2.2.2.2.2.2.2.2.2 = iv (t' : Nat) := by
  have h6 := h.np6
  have hl60 := hx.2.1
  have hX : bRX (d 0) (d 1) (d 2) (d 3) (d 5 0) (d 5 1) s := h.x
  obtain ⟨hq, hle⟩ := brun_ok C 0 (-1) t ⟨by omega, by omega, by omega, ht8⟩
  unfold fX5_openAll fX6_openAll fX0_projects fX6_fails
  rw [x_wholePlan hx ht ht8, bw_b4s]
  obtain ⟨A, rd', ok, pl', to', e1, e2⟩ := f_isPlan hz pl to rd
  rw [e1, bw_b4s]
  have hpp : fX4_projectsInPlan cs ln = some (iv (1 + bc59 C)) := x_projectsInPlan hx C [] bw_fu 1 rfl (by unfold bw_fu; omega)
  have hb60 : ∀ l : List Int, bc59 l ≤ l.length := by
    intro l
    induction l with
    | nil => exact Nat.le_refl _
    | cons x xs ih =>
      show (if x = 59 then 1 else 0) + bc59 xs ≤ _
      rw [List.length_cons]
      split <;> omega
  have hbc := hb60 C
  rcases e2 with ⟨q1, q2⟩ | ⟨q1, q2, q3, q4, q5, q6⟩
  · subst q1
    rw [if_neg (q2 t).2, if_pos rfl, if_pos rfl]
    refine bOk_s (bOk_s ⟨.inr ⟨by simp, by simp, by simp [bkO], by simp [bkO]⟩, h.same, ⟨C, hx, hz⟩, _, hq.2.2.2, rfl⟩)
  · subst q1 q2
    have hw := q5 t
    rw [if_pos hw, if_neg (show ¬(1 : Int32) = 0 by decide), if_neg (show ¬(1 : Int32) = 0 by decide), bw_b1_s, hpp, bw_b1_s, hX.n, h.z.r0, bw_b1_s, iv_add]
    -- as many projects as the text has
    have hAn : ∀ s0 : bSt, s0.1 + A.length = (bopT C 0 0 s0).1 := fun s0 => by rw [q6 s0, bopns_1]
    have hcnt : ∀ (suf : List Int) (p : Nat) (v : Int) (t : Nat) (r nn : Int) (s0 : bSt), p < 3 → bnum p v → ((p = 0 ∧ r = 0) ∨ (p = 1 ∧ 1 ≤ r) ∨ (p = 2 ∧ r = 0)) → nn = max v 0 → ((brun suf p v t).1 = suf.length ∧ (brun suf p v t).2.1 = 2 ∧ (brun suf p v t).2.2.1 ≠ -1) → (bopT suf r nn s0).1 = s0.1 + ((if p = 2 then 0 else 1) + bc59 suf) := by
      intro suf
      induction suf with
      | nil =>
        intro p v t r nn s0 hp hnum hr hnn hrun
        have : p = 2 := hrun.2.1
        subst this
        rfl
      | cons c cs' ih =>
        intro p v t r nn s0 hp hnum hr hnn hrun
        rw [brun_c] at hrun
        have hst : (bstep p v t c).1 = 1 := by
          by_cases q : (bstep p v t c).1 = 1
          · exact q
          · rw [if_neg q] at hrun
            have := hrun.1
            rw [List.length_cons] at this
            exact absurd this (by show ¬(0 = cs'.length + 1); omega)
        rw [if_pos hst, List.length_cons] at hrun
        have hrun2 : (brun cs' (bstep p v t c).2.1 (bstep p v t c).2.2.1 (bstep p v t c).2.2.2).1 = cs'.length ∧ (brun cs' (bstep p v t c).2.1 (bstep p v t c).2.2.1 (bstep p v t c).2.2.2).2.1 = 2 ∧ (brun cs' (bstep p v t c).2.1 (bstep p v t c).2.2.1 (bstep p v t c).2.2.2).2.2.1 ≠ -1 := ⟨by have := hrun.1; dsimp only at this; omega, hrun.2⟩
        have h59 : bc59 (c :: cs') = (if c = 59 then 1 else 0) + bc59 cs' := rfl
        rw [bopT_c, h59]
        have hnl : 0 ≤ bnl p := by unfold bnl; split <;> omega
        unfold bstep at hst hrun2
        by_cases c1 : 48 ≤ c ∧ c ≤ 57
        · rw [if_pos c1] at hst hrun2
          by_cases c2 : v ≠ 0 ∧ bnl p ≤ bgr v (c - 48) ∧ bgr v (c - 48) ≤ bng p
          · rw [if_pos c2] at hrun2
            rw [if_pos c1, if_neg (show ¬c = 59 by omega), Nat.zero_add]
            refine ih p (bgr v (c - 48)) t r _ s0 hp (.inr c2.2) hr ?_ hrun2
            have hb0 : 0 ≤ bgr v (c - 48) := by omega
            rw [hnn]
            unfold bgr at hb0 ⊢
            split <;> omega
          · rw [if_neg c2] at hst
            exact absurd hst (by simp)
        · rw [if_neg c1] at hst hrun2
          rw [if_neg c1]
          by_cases cv : v = -1
          · rw [if_pos cv] at hst
            exact absurd hst (by simp)
          · rw [if_neg cv] at hst hrun2
            have hvr : bnl p ≤ v ∧ v ≤ bng p := by
              rcases hnum with q | q
              · exact absurd q cv
              · exact q
            by_cases c3 : p = 0 ∧ c = 58
            · rw [if_pos c3] at hrun2
              obtain ⟨rfl, rfl⟩ := c3
              have hv1 : 1 ≤ v ∧ v ≤ 9 := hvr
              have hr0 : r = 0 := by omega
              rw [if_pos rfl, if_pos hr0, if_neg (show ¬(58 : Int) = 59 by omega), Nat.zero_add]
              exact ih 1 (-1) t nn 0 s0 (by omega) (.inl rfl) (.inr (.inl ⟨rfl, by omega⟩)) (by omega) hrun2
            · rw [if_neg c3] at hst hrun2
              by_cases c4 : p = 1 ∧ c = 58
              · rw [if_pos c4] at hrun2
                obtain ⟨rfl, rfl⟩ := c4
                rw [if_pos rfl, if_neg (show ¬r = 0 by omega), if_neg (show ¬(58 : Int) = 59 by omega), Nat.zero_add]
                rw [ih 2 (-1) 1 0 0 (bopn s0 r nn) (by omega) (.inl rfl) (.inr (.inr ⟨rfl, rfl⟩)) (by omega) hrun2]
                show s0.1 + 1 + (0 + bc59 cs') = s0.1 + (1 + bc59 cs')
                omega
              · rw [if_neg c4] at hst hrun2
                by_cases c5 : p = 2 ∧ c = 43 ∧ t < 8
                · rw [if_pos c5] at hrun2
                  obtain ⟨rfl, rfl, _⟩ := c5
                  rw [if_neg (show ¬(43 : Int) = 58 by omega), if_neg (show ¬(43 : Int) = 59 by omega), Nat.zero_add]
                  exact ih 2 (-1) (t + 1) r 0 (bpln s0 (s0.1 - 1) nn) (by omega) (.inl rfl) (.inr (.inr ⟨rfl, by omega⟩)) (by omega) hrun2
                · rw [if_neg c5] at hst hrun2
                  by_cases c6 : p = 2 ∧ c = 59
                  · rw [if_pos c6] at hrun2
                    obtain ⟨rfl, rfl⟩ := c6
                    rw [if_neg (show ¬(59 : Int) = 58 by omega), if_pos rfl]
                    rw [ih 0 (-1) t r 0 (bpln s0 (s0.1 - 1) nn) (by omega) (.inl rfl) (.inl ⟨rfl, by omega⟩) (by omega) hrun2]
                    show s0.1 + (1 + bc59 cs') = s0.1 + (0 + (1 + bc59 cs'))
                    omega
                  · rw [if_neg c6] at hst
                    exact absurd hst (by simp)
    have hA1 : A.length = 1 + bc59 C := by
      have e3 := hAn s
      rw [hcnt C 0 (-1) t 0 0 s (by omega) (.inl rfl) (.inl ⟨rfl, rfl⟩) (by omega) hw, if_neg (by omega)] at e3
      omega
    rw [iv_add, show (6 : Int32) = iv 6 from rfl, ite_le (r32i (by omega) (by omega)) (r32i (by omega) (by omega)), ite_le (r32i (by omega) (by omega)) (r32i (by omega) (by omega))]
    by_cases c6 : (s.1 : Int) + (1 + bc59 C) ≤ 6
    · rw [if_pos c6, if_pos (by omega)]
      have hop := l_begin hx C [] bw_fu 0 (-1) t 0 0 s f d rfl (by unfold bw_fu; omega) (by omega) (.inl rfl) ht8 ⟨by omega, .inl ⟨rfl, rfl⟩⟩ h.x h.i (by rw [if_neg (by omega)]; omega) hw
      rw [if_neg (show ¬(0 : Nat) = 2 by omega)] at hop
      refine bOk_b3 (x_keep h.x h.h) fun sl1 hn1 hs1 hk1 => ?_
      unfold fX5_openProjectsOfText
      refine bOk_b1 hop.1 fun d1 hd1 => ?_
      unfold fX4_wipe
      rw [bw_b1_s, bw_b1_s]
      refine bOk_s ?_
      refine bOk_b2 (f_save h.z h.r) fun rows1 sm1 hr => ?_
      have hbeg := l_begins (b := b) (buf := buf) (rows := rows1) (sm := sm1) (bm := bm) (th := 0) (pl := pl') (by omega) q3 q4 A [] bw_fu z s f rfl (by unfold bw_fu; omega) h.z h.i (by omega)
      have hbeg' : bOk (lX6_openAll_46 rows1 sm1 buf bm 0 pl' (iv A.length) rd' bw_fu z 0) fun r => r.1 = iv ((s.1 + A.length : Nat) : Int) ∧ bRZ r.2.1 (bopns s A) ∧ r.2.2.1 = rows1 ∧ r.2.2.2.1 = sm1 ∧ r.2.2.2.2.1 = 0 ∧ r.2.2.2.2.2.1 = 0 := hbeg
      refine bOk_m hbeg' fun m hm => ?_
      obtain ⟨m1, m2, m3, m4, m5, m6⟩ := hm
      have hds : bRD d1 (bopT C 0 0 s) := hd1
      have hI : bIn (bopT C 0 0 s) (f + 600) (b + 310000) := hop.2.1.bc (by omega) (by omega)
      have hnp : d1 5 0 = iv (bopT C 0 0 s).1 := bRX.n hds
      refine ⟨.inl ⟨rfl, m6, ?_⟩, ⟨bopT C 0 0 s, bpush s H, hds, hk1, by rw [q6 s]; exact m2, by rw [m3, m4]; exact hr, hI, h.hp⟩, ⟨[], ⟨rfl, by simp, fun i hi => by simp at hi, fun c hc => by cases hc⟩, by rw [m5]; exact ⟨rfl, by simp, fun i hi => by simp at hi, fun c hc => by cases hc⟩⟩, _, hq.2.2.2, rfl⟩
      dsimp only
      rw [m1, hnp, ← hAn s]
    · rw [if_neg c6, if_neg (by omega)]
      refine bOk_s (bOk_s ⟨.inr ⟨by simp, by simp, by simp [bkO], by simp [bkO]⟩, h.same, ⟨C, hx, hz⟩, _, hq.2.2.2, rfl⟩)
end
