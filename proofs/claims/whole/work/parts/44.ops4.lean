/- needs: 43.looks -/
/-! ===== looks: the calls ===== -/
/-- the class and the reference before a look -/
abbrev bDL (s : bSt) (f b : Int) (d : Nat → Nat → Int32) (z : Nat → Int32) : Prop := bRD d s ∧ bRZ z s ∧ bIn s f b ∧ f ≤ 310000 ∧ 0 ≤ f ∧ b ≤ 200000000
theorem bDL.X {s : bSt} {f b : Int} {d : Nat → Nat → Int32} {z : Nat → Int32} (h : bDL s f b d z) : bRX (d 0) (d 1) (d 2) (d 3) (d 5 0) (d 5 1) s := h.1
theorem bDL.Z {s : bSt} {f b : Int} {d : Nat → Nat → Int32} {z : Nat → Int32} (h : bDL s f b d z) : bRZ z s := h.2.1
theorem bDL.I {s : bSt} {f b : Int} {d : Nat → Nat → Int32} {z : Nat → Int32} (h : bDL s f b d z) : bIn s f b := h.2.2.1
theorem bDL.fl {s : bSt} {f b : Int} {d : Nat → Nat → Int32} {z : Nat → Int32} (h : bDL s f b d z) : f ≤ 310000 := h.2.2.2.1
section
variable {s : bSt} {H : List bSt} {f b : Int} {d : Nat → Nat → Int32} {sl : Nat → Nat → Nat → Int32} {hn hs : Int32} {z rows : Nat → Int32} {sm : Int32}
theorem isN {p : Int} {n : Int} (h : 0 ≤ p ∧ p ≤ n) : ∃ k : Nat, p = k ∧ (k : Int) ≤ n := ⟨p.toNat, by omega, by omega⟩
theorem op_project (h : bDL s f b d z) (th p1 p2 : Int32) : bOk (fX5_project d p1 p2) fun c => bOk (fX6_project z th p1 p2) fun m => bAg bk12 c.1 c.2 m.1 m.2 := by
  have hp1 := r32_of p1
  have hp2 := r32_of p2
  rw [← iv_of p1, ← iv_of p2]
  generalize p1.toInt = p at hp1 ⊢
  generalize p2.toInt = c at hp2 ⊢
  have a1 : fX5_isOutside (iv c) 0 14 = some (if 0 ≤ c ∧ c ≤ 14 then 0 else 1) := f_out (l := 0) (m := 14) hp2 (r32i (by omega) (by omega)) (r32i (by omega) (by omega))
  have a2 : fX6_in (iv c) 0 14 = some (if 0 ≤ c ∧ c ≤ 14 then 1 else 0) := f_in (l := 0) (m := 14) hp2 (r32i (by omega) (by omega)) (r32i (by omega) (by omega))
  unfold fX5_project fX6_project fX6_fails
  simp only [f_needProject h.1 hp1, f_isProject h.Z hp1, a1, a2, bw_b1_s, bw_b2_s, ite_10, ite_01]
  by_cases c1 : 0 ≤ p ∧ p ≤ (s.1 : Int) - 1
  · obtain ⟨k, rfl, hk⟩ := isP c1
    rw [if_pos c1, if_pos c1, thn0]
    by_cases c2 : 0 ≤ c ∧ c ≤ 14
    · obtain ⟨e, rfl, he⟩ := isN c2
      rw [if_pos c2, if_pos c2, x_projectPart h.1 h.I h.fl hk (by omega), bw_b1_s, f_projectOf h.Z h.I h.fl hk (by omega), bw_b1_s]
      exact bOk_s (bOk_s (.inl ⟨rfl, rfl, rfl⟩))
    · rw [if_neg c2, if_neg c2]
      exact bOk_s (bOk_s (.inr ⟨by simp, by simp, by simp [bk12], by simp [bk12]⟩))
  · rw [if_neg c1, if_neg c1, thn1 _ _ _ (by omega)]
    exact bOk_s (bOk_s (.inr ⟨by simp, by simp, by simp [bk12], by simp [bk12]⟩))
theorem op_task (h : bDL s f b d z) (th p1 p2 p3 : Int32) : bOk (fX5_task d p1 p2 p3) fun c => bOk (fX6_task z th p1 p2 p3) fun m => bAg bk12 c.1 c.2 m.1 m.2 := by
  have hp1 := r32_of p1
  have hp2 := r32_of p2
  have hp3 := r32_of p3
  rw [← iv_of p1, ← iv_of p2, ← iv_of p3]
  generalize p1.toInt = p at hp1 ⊢
  generalize p2.toInt = t at hp2 ⊢
  generalize p3.toInt = c at hp3 ⊢
  have a1 : fX5_isOutside (iv c) 0 5 = some (if 0 ≤ c ∧ c ≤ 5 then 0 else 1) := f_out (l := 0) (m := 5) hp3 (r32i (by omega) (by omega)) (r32i (by omega) (by omega))
  have a2 : fX6_in (iv c) 0 5 = some (if 0 ≤ c ∧ c ≤ 5 then 1 else 0) := f_in (l := 0) (m := 5) hp3 (r32i (by omega) (by omega)) (r32i (by omega) (by omega))
  unfold fX5_task fX6_task jX6_task_34 fX6_fails
  simp only [f_needProject h.1 hp1, f_isProject h.Z hp1, a1, a2, bw_b1_s, bw_b2_s, ite_10, ite_01]
  by_cases c1 : 0 ≤ p ∧ p ≤ (s.1 : Int) - 1
  · obtain ⟨k, rfl, hk⟩ := isP c1
    have hmn := h.I.mn k hk
    have a3 : fX5_isOutside (iv t) 0 (iv (s.2.1 k 5 - 1)) = some (if 0 ≤ t ∧ t ≤ s.2.1 k 5 - 1 then 0 else 1) := f_out (l := 0) hp2 (r32i (by omega) (by omega)) (r32i (by omega) (by omega))
    have a4 : fX6_in (iv t) 0 (iv (s.2.1 k 5 - 1)) = some (if 0 ≤ t ∧ t ≤ s.2.1 k 5 - 1 then 1 else 0) := f_in (l := 0) hp2 (r32i (by omega) (by omega)) (r32i (by omega) (by omega))
    rw [if_pos c1, if_pos c1, thn0, x_part h.1 hk 7 (by omega) (by omega), bw_b1_s, show bT (bTP s.2.1) s.2.2.1 s.2.2.2.1 k 7 = s.2.1 k 5 from rfl, f_at, bw_b1_s, h.Z.rP hk 5 (by omega) (by omega), bw_b1_s, show (1 : Int32) = iv 1 from rfl, iv_sub, a3, bw_b1_s, ite_01, a4, bw_b1_s, ite_10]
    by_cases c2 : 0 ≤ t ∧ t ≤ s.2.1 k 5 - 1
    · obtain ⟨u, rfl, hu⟩ := isN c2
      rw [if_pos c2, if_pos c2]
      by_cases c3 : 0 ≤ c ∧ c ≤ 5
      · obtain ⟨e, rfl, he⟩ := isN c3
        rw [if_pos c3, if_pos c3, x_taskPart h.1 hk (by omega) (by omega), bw_b1_s, f_taskOf h.Z hk (by omega) (by omega), bw_b1_s]
        exact bOk_s (bOk_s (.inl ⟨rfl, rfl, rfl⟩))
      · rw [if_neg c3, if_neg c3]
        exact bOk_s (bOk_s (.inr ⟨by simp, by simp, by simp [bk12], by simp [bk12]⟩))
    · rw [if_neg c2, if_neg c2]
      exact bOk_s (bOk_s (.inr ⟨by simp, by simp, by simp [bk12]; rfl, by simp [bk12]⟩))
  · rw [if_neg c1, if_neg c1, thn1 _ _ _ (by omega)]
    exact bOk_s (bOk_s (.inr ⟨by simp, by simp, by simp [bk12], by simp [bk12]⟩))
/-- a loan's part -/
def blp (e : bLn) (c : Nat) : Int := if c = 0 then e.1 else if c = 1 then e.2.1 else e.2.2
theorem f_loanPart (h : bRZ z s) {i c : Nat} (hi : i < s.2.2.2.1.length) (hc : c < 3) : bw_rd 444 z (354 + 3 * iv i + iv c) = some (iv (blp s.2.2.2.1[i] c)) := by
  have hc2 : c = 0 ∨ c = 1 ∨ c = 2 := by omega
  rcases hc2 with rfl | rfl | rfl
  · have e : (354 + 3 * iv (i : Int) + iv ((0 : Nat) : Int) : Int32) = 354 + 3 * iv i := by
      simp only [iv_cast, iv_mul, iv_add]
      congr 1
    rw [e, h.rA hi]
    rfl
  · rw [show (iv ((1 : Nat) : Int) : Int32) = 1 from rfl, h.rB hi]
    rfl
  · rw [show (iv ((2 : Nat) : Int) : Int32) = 2 from rfl, h.rD hi]
    rfl
theorem x_loanPart {tl : Nat → Int32} {nl : Int32} {L : List bLn} (h : bRL tl nl L) {i c : Nat} (hi : i < L.length) (hc : c < 3) : fX0_loanPart tl (iv i) (iv c) = some (iv (blp L[i] c)) := by
  have h30 := h.l30
  unfold fX0_loanPart
  rw [show (3 : Int32) = iv 3 from rfl, t_get (i := 3 * i + c) (by omega) (by omega) (by omega), bw_b1_s]
  have hc2 : c = 0 ∨ c = 1 ∨ c = 2 := by omega
  rcases hc2 with rfl | rfl | rfl
  · rw [Nat.add_zero, h.fa i hi]; rfl
  · rw [h.fb i hi]; rfl
  · rw [h.fd i hi]; rfl
theorem op_loan (h : bDL s f b d z) (th p1 p2 : Int32) : bOk (fX5_loan d p1 p2) fun c => bOk (fX6_loan z th p1 p2) fun m => bAg bk12 c.1 c.2 m.1 m.2 := by
  have hp1 := r32_of p1
  have hp2 := r32_of p2
  have h30 := h.Z.l30
  rw [← iv_of p1, ← iv_of p2]
  generalize p1.toInt = p at hp1 ⊢
  generalize p2.toInt = c at hp2 ⊢
  have a1 : fX5_isOutside (iv c) 0 2 = some (if 0 ≤ c ∧ c ≤ 2 then 0 else 1) := f_out (l := 0) (m := 2) hp2 (r32i (by omega) (by omega)) (r32i (by omega) (by omega))
  have a2 : fX6_in (iv c) 0 2 = some (if 0 ≤ c ∧ c ≤ 2 then 1 else 0) := f_in (l := 0) (m := 2) hp2 (r32i (by omega) (by omega)) (r32i (by omega) (by omega))
  have a3 : fX5_isOutside (iv p) 0 (iv ((s.2.2.2.1.length : Int) - 1)) = some (if 0 ≤ p ∧ p ≤ (s.2.2.2.1.length : Int) - 1 then 0 else 1) := f_out (l := 0) hp1 (r32i (by omega) (by omega)) (r32i (by omega) (by omega))
  have a4 : fX6_in (iv p) 0 (iv ((s.2.2.2.1.length : Int) - 1)) = some (if 0 ≤ p ∧ p ≤ (s.2.2.2.1.length : Int) - 1 then 1 else 0) := f_in (l := 0) hp1 (r32i (by omega) (by omega)) (r32i (by omega) (by omega))
  have e1 : (iv (s.2.2.2.1.length : Int) - 1 : Int32) = iv ((s.2.2.2.1.length : Int) - 1) := by rw [show (1 : Int32) = iv 1 from rfl, iv_sub]
  unfold fX5_loan fX6_loan fX0_loans fX6_fails
  rw [h.X.x.l.n]
  simp only [h.Z.r1, e1, a1, a2, a3, a4, bw_b1_s, bw_b2_s, ite_10, ite_01]
  by_cases c1 : 0 ≤ p ∧ p ≤ (s.2.2.2.1.length : Int) - 1
  · obtain ⟨i, rfl, hi⟩ := isN c1
    rw [if_pos c1, if_pos c1]
    by_cases c2 : 0 ≤ c ∧ c ≤ 2
    · obtain ⟨e, rfl, he⟩ := isN c2
      rw [if_pos c2, if_pos c2, x_loanPart h.X.x.l (by omega) (by omega), bw_b1_s, f_loanAt, bw_b1_s, f_loanPart h.Z (by omega) (by omega), bw_b1_s]
      exact bOk_s (bOk_s (.inl ⟨rfl, rfl, rfl⟩))
    · rw [if_neg c2, if_neg c2]
      exact bOk_s (bOk_s (.inr ⟨by simp, by simp, by simp [bk12], by simp [bk12]⟩))
  · rw [if_neg c1, if_neg c1]
    exact bOk_s (bOk_s (.inr ⟨by simp, by simp, by simp [bk12], by simp [bk12]⟩))
theorem op_owed (h : bDL s f b d z) (th p1 p2 : Int32) : bOk (fX5_owed d p1 p2) fun c => bOk (fX6_owed z th p1 p2) fun m => bAg bk1 c.1 c.2 m.1 m.2 := by
  have h6 := h.Z.n6
  have hp1 := r32_of p1
  have hp2 := r32_of p2
  rw [← iv_of p1, ← iv_of p2]
  generalize p1.toInt = p at hp1 ⊢
  generalize p2.toInt = q at hp2 ⊢
  unfold fX5_owed fX6_owed jX6_owed_30 fX6_fails
  simp only [f_needProject h.1 hp1, f_isProject h.Z hp1, f_needProject h.1 hp2, f_isProject h.Z hp2, bw_b1_s, bw_b2_s, ite_10, ite_01]
  by_cases c1 : 0 ≤ p ∧ p ≤ (s.1 : Int) - 1
  · obtain ⟨j, rfl, hj⟩ := isP c1
    rw [if_pos c1, if_pos c1, thn0]
    by_cases c2 : 0 ≤ q ∧ q ≤ (s.1 : Int) - 1
    · obtain ⟨i, rfl, hi⟩ := isP c2
      rw [if_pos c2, if_pos c2, thn0, x_daysOwed (a := i) (b := j) (by omega) (by omega) h.I.ab6 h.X.x.l, bw_b1_s, f_owedOf h.Z h.I.m.w.lok (a := i) (b := j) (by omega) (by omega), bw_b1_s]
      exact bOk_s (bOk_s (.inl ⟨rfl, rfl, rfl⟩))
    · rw [if_neg c2, if_neg c2, thn1 _ _ _ (by omega)]
      exact bOk_s (bOk_s (.inr ⟨by simp, by simp, by simp [bk1], by simp [bk1]⟩))
  · rw [if_neg c1, if_neg c1, thn1 _ _ _ (by omega)]
    exact bOk_s (bOk_s (.inr ⟨by simp, by simp, by simp [bk1], by simp [bk1]⟩))
/-- the lender at a place -/
def blat (s : bSt) (k i : Nat) : Int := if h : i < (bl5 s k).length then ((bl5 s k)[i] : Nat) else -1
theorem bl5_len (h6 : s.1 ≤ 6) (k : Nat) : (bl5 s k).length ≤ 6 := nodup_lt 6 _ bl5_nd fun x hx => by have := bl5_in hx; omega
theorem f_lenderOf (h : bRZ z s) (hi : bIn s f b) (hf : f ≤ 310000) (hb : b ≤ 200000000) {k i : Nat} (hk : k < s.1) (h5 : i < 5) {od : bw_A1} {om : Int32} : bOk (fX6_lenderOf z od om (iv k) (iv i)) fun r => r.1 = iv (blat s k i) := by
  have hl := bl5_len h.n6 k
  unfold fX6_lenderOf
  refine bOk_b2 (f_layOrder h (hi.sm (by omega)) (hi.m.lt (by omega)) hk) fun od1 om1 hro => ?_
  have hro' : bRO od1 om1 (bl5 s k) := hro
  rw [hro'.m, ite_le (r32n (by omega)) (r32n (by omega))]
  unfold blat
  by_cases c : i < (bl5 s k).length
  · rw [if_neg (by omega), dif_pos c, iv_rd (by omega) (by omega) (by omega), bw_b1_s]
    exact bOk_s (hro'.o i c)
  · rw [if_pos (by omega), dif_neg c]
    exact bOk_s rfl
theorem x_lenderAt (h : bRD d s) (hi : bIn s f b) (hf : f ≤ 310000) (hb : b ≤ 200000000) {k i : Nat} (hk : k < s.1) (h5 : i < 5) : bOk (fX0_lenderAt (d 0) (d 3) (d 4) (d 5 0) (iv k) (iv i)) fun r => r.1 = iv (blat s k i) := by
  have hX : bRX (d 0) (d 1) (d 2) (d 3) (d 5 0) (d 5 1) s := h
  have h6 := hX.n6
  have hl := bl5_len h6 k
  unfold fX0_lenderAt
  rw [x_isOpen hX.xs (by omega) (hi.m.op k hk), bw_b1_s, ite_10]
  unfold blat
  by_cases o : s.2.1 k 7 = 1
  · have e5 : bl5 s k = bl4 s k := if_pos o
    rw [if_pos o, hX.n]
    refine bOk_b2 (x_queue hX.xs (hi.sm (by omega)) h6 (hi.m.lt (by omega)) hk (d 4)) fun r2 tq2 hq => ?_
    obtain ⟨e, hq⟩ := hq
    dsimp only at e hq
    subst e
    rw [ite_lt (r32n (by omega)) (r32n (by rw [← e5]; omega))]
    by_cases c : i < (bl5 s k).length
    · have c' : i < (bl4 s k).length := by rw [← e5]; exact c
      rw [if_pos (by omega), dif_pos c, show (3 : Int32) = iv 3 from rfl, show (0 : Int32) = iv 0 from rfl, t_get (i := 3 * i) (by omega) (by omega) (by omega), bw_b1_s, hq.n i c']
      refine bOk_s ?_
      dsimp only
      congr 2
      simp only [e5]
    · have c' : ¬i < (bl4 s k).length := by rw [← e5]; exact c
      rw [if_neg (by omega), dif_neg c]
      exact bOk_s rfl
  · have e5 : bl5 s k = [] := if_neg o
    rw [if_neg o, dif_neg (by rw [e5]; simp)]
    exact bOk_s rfl
theorem bRD.q (h : bRD d s) (tq : Nat → Int32) : bRD (va_up d 4 tq) s := h
theorem op_lender (h : bDL s f b d z) (th p1 p2 : Int32) (od : bw_A1) (om : Int32) : bOk (fX5_lender d p1 p2) fun c => bOk (fX6_lender z th od om p1 p2) fun m => bAg bk12 c.1 c.2.1 m.1 m.2.1 ∧ bRD c.2.2 s := by
  have hp1 := r32_of p1
  have hp2 := r32_of p2
  rw [← iv_of p1, ← iv_of p2]
  generalize p1.toInt = p at hp1 ⊢
  generalize p2.toInt = c at hp2 ⊢
  have a1 : fX5_isOutside (iv c) 0 4 = some (if 0 ≤ c ∧ c ≤ 4 then 0 else 1) := f_out (l := 0) (m := 4) hp2 (r32i (by omega) (by omega)) (r32i (by omega) (by omega))
  have a2 : fX6_in (iv c) 0 4 = some (if 0 ≤ c ∧ c ≤ 4 then 1 else 0) := f_in (l := 0) (m := 4) hp2 (r32i (by omega) (by omega)) (r32i (by omega) (by omega))
  unfold fX5_lender fX6_lender fX6_fails
  simp only [f_needProject h.1 hp1, f_isProject h.Z hp1, a1, a2, bw_b1_s, bw_b2_s, ite_10, ite_01]
  by_cases c1 : 0 ≤ p ∧ p ≤ (s.1 : Int) - 1
  · obtain ⟨k, rfl, hk⟩ := isP c1
    rw [if_pos c1, if_pos c1, thn0]
    by_cases c2 : 0 ≤ c ∧ c ≤ 4
    · obtain ⟨e, rfl, he⟩ := isN c2
      rw [if_pos c2, if_pos c2]
      refine bOk_b2 (x_lenderAt h.1 h.I h.fl h.2.2.2.2.2 hk (i := e) (by omega)) fun r1 tq1 h1 => bOk_s ?_
      refine bOk_b3 (f_lenderOf h.Z h.I h.fl h.2.2.2.2.2 hk (i := e) (by omega)) fun r2 od2 om2 h2 => bOk_s ⟨.inl ⟨rfl, rfl, h1.trans h2.symm⟩, bRD.q h.1 tq1⟩
    · rw [if_neg c2, if_neg c2]
      exact bOk_s (bOk_s ⟨.inr ⟨by simp, by simp, by simp [bk12], by simp [bk12]⟩, h.1⟩)
  · rw [if_neg c1, if_neg c1, thn1 _ _ _ (by omega)]
    exact bOk_s (bOk_s ⟨.inr ⟨by simp, by simp, by simp [bk12], by simp [bk12]⟩, h.1⟩)
/-- the ten counts -/
def bcn (s : bSt) (hl c : Nat) : Int := if c = 0 then s.1 else if c = 1 then bsp s 9 s.1 else if c = 2 then s.2.2.2.1.length else if c = 3 then bsp s 4 s.1 else if c = 4 then bsp s 2 s.1 else if c = 5 then bsp s 6 s.1 else if c = 6 then bsp s 8 s.1 else if c = 7 then bdal s s.1 else if c = 8 then s.2.2.2.2.2 else hl
theorem bsp_won : ∀ n, bsp s 10 n = bsC s.2.1 8 n := by
  intro n
  induction n with
  | zero => rfl
  | succ n ih =>
    show bsp s 10 n + bpr s n 10 = bsC s.2.1 8 n + s.2.1 n 8
    rw [ih]
    rfl
theorem x_numberOf (h : bRD d s) (hi : bIn s f b) (hs : Int32) {hl : Nat} (eh : hs = iv hl) {c : Nat} (hc : c < 10) : fX5_numberOf d hs (iv c) = some (iv (bcn s hl c)) := by
  have hX : bRX (d 0) (d 1) (d 2) (d 3) (d 5 0) (d 5 1) s := h
  have hc2 : c = 0 ∨ c = 1 ∨ c = 2 ∨ c = 3 ∨ c = 4 ∨ c = 5 ∨ c = 6 ∨ c = 7 ∨ c = 8 ∨ c = 9 := by omega
  have w := bsp_won (s := s) s.1
  rw [hi.wn] at w
  have s9 : fX0_sumOfProjects (d 0) (d 5 0) 9 = some (iv (bsp s 9 s.1)) := x_sum h (c := 9) (by omega)
  have s4 : fX0_sumOfProjects (d 0) (d 5 0) 4 = some (iv (bsp s 4 s.1)) := x_sum h (c := 4) (by omega)
  have s2 : fX0_sumOfProjects (d 0) (d 5 0) 2 = some (iv (bsp s 2 s.1)) := x_sum h (c := 2) (by omega)
  have s6 : fX0_sumOfProjects (d 0) (d 5 0) 6 = some (iv (bsp s 6 s.1)) := x_sum h (c := 6) (by omega)
  have s8 : fX0_sumOfProjects (d 0) (d 5 0) 8 = some (iv (bsp s 8 s.1)) := x_sum h (c := 8) (by omega)
  have s10 : fX0_sumOfProjects (d 0) (d 5 0) 10 = some (iv s.2.2.2.2.2) := by rw [← w]; exact x_sum h (c := 10) (by omega)
  have s7 := x_delays h hi
  have sn : d 5 0 = iv s.1 := hX.n
  have sl : d 5 1 = iv s.2.2.2.1.length := hX.x.l.n
  unfold fX5_numberOf fX0_projects fX0_loans fX1_size
  rw [s9, s4, s2, s6, s8, s10, s7, sn, sl, eh]
  rcases hc2 with rfl | rfl | rfl | rfl | rfl | rfl | rfl | rfl | rfl | rfl <;> rfl
theorem f_counted (h : bRZ z s) (hi : bIn s f b) (hf : f ≤ 310000) (sm : Int32) {hl : Nat} (eh : sm = iv hl) {c : Nat} (hc : c < 10) : fX6_counted z sm (iv c) = some (iv (bcn s hl c)) := by
  have hc2 : c = 0 ∨ c = 1 ∨ c = 2 ∨ c = 3 ∨ c = 4 ∨ c = 5 ∨ c = 6 ∨ c = 7 ∨ c = 8 ∨ c = 9 := by omega
  have s9 : fX6_ofProjects z 9 = some (iv (bsp s 9 s.1)) := f_ofProjects h hi hf (c := 9) (by omega)
  have s4 : fX6_ofProjects z 4 = some (iv (bsp s 4 s.1)) := f_ofProjects h hi hf (c := 4) (by omega)
  have s2 : fX6_ofProjects z 2 = some (iv (bsp s 2 s.1)) := f_ofProjects h hi hf (c := 2) (by omega)
  have s6 : fX6_ofProjects z 6 = some (iv (bsp s 6 s.1)) := f_ofProjects h hi hf (c := 6) (by omega)
  have s8 : fX6_ofProjects z 8 = some (iv (bsp s 8 s.1)) := f_ofProjects h hi hf (c := 8) (by omega)
  have s7 := f_delays h hi
  unfold fX6_counted
  rw [s9, s4, s2, s6, s8, s7, h.r0, h.r1, h.r2, eh]
  rcases hc2 with rfl | rfl | rfl | rfl | rfl | rfl | rfl | rfl | rfl | rfl <;> rfl
def bkA (e : Nat) : Int32 := if e = 2 then 1 else if e = 1 then 1 else 0
theorem op_count (h : bDL s f b d z) (hs sm : Int32) {hl : Nat} (eh : hs = iv hl) (em : sm = iv hl) (th p1 : Int32) : bOk (fX5_count d hs p1) fun c => bOk (fX6_count z sm th p1) fun m => bAg bk2 c.1 c.2 m.1 m.2 := by
  have hp1 := r32_of p1
  rw [← iv_of p1]
  generalize p1.toInt = c at hp1 ⊢
  have a1 : fX5_isOutside (iv c) 0 9 = some (if 0 ≤ c ∧ c ≤ 9 then 0 else 1) := f_out (l := 0) (m := 9) hp1 (r32i (by omega) (by omega)) (r32i (by omega) (by omega))
  have a2 : fX6_in (iv c) 0 9 = some (if 0 ≤ c ∧ c ≤ 9 then 1 else 0) := f_in (l := 0) (m := 9) hp1 (r32i (by omega) (by omega)) (r32i (by omega) (by omega))
  unfold fX5_count fX6_count fX6_fails
  simp only [a1, a2, bw_b1_s, bw_b2_s, ite_10, ite_01]
  by_cases c2 : 0 ≤ c ∧ c ≤ 9
  · obtain ⟨e, rfl, he⟩ := isN c2
    rw [if_pos c2, if_pos c2, x_numberOf h.1 h.I hs eh (by omega), bw_b1_s, f_counted h.Z h.I h.fl sm em (by omega), bw_b1_s]
    exact bOk_s (bOk_s (.inl ⟨rfl, rfl, rfl⟩))
  · rw [if_neg c2, if_neg c2]
    exact bOk_s (bOk_s (.inr ⟨by simp, by simp, by simp [bk2], by simp [bk2]⟩))
theorem x_valueOf (h : bRD d s) {i : Nat} (hi : i < 3) : fX0_valueOf (d 3) (iv i) = some (iv (s.2.2.2.2.1 i)) := by
  have hX : bRX (d 0) (d 1) (d 2) (d 3) (d 5 0) (d 5 1) s := h
  unfold fX0_valueOf
  rw [show fX3_get 3 3 (d 3) 0 (iv i) = some (d 3 i) from t_get (cn := 3) (cc := 3) (r := 0) (by omega) (by omega) hi, bw_b1_s, hX.sS i hi]
theorem op_setting (h : bDL s f b d z) (th p1 : Int32) : bOk (fX5_setting d p1) fun c => bOk (fX6_setting z th p1) fun m => bAg bk1 c.1 c.2 m.1 m.2 := by
  have hp1 := r32_of p1
  rw [← iv_of p1]
  generalize p1.toInt = c at hp1 ⊢
  have a1 : fX5_isOutside (iv c) 0 (3 - 1) = some (if 0 ≤ c ∧ c ≤ 2 then 0 else 1) := f_out (l := 0) (m := 2) hp1 (r32i (by omega) (by omega)) (r32i (by omega) (by omega))
  have a2 : fX6_in (iv c) 0 2 = some (if 0 ≤ c ∧ c ≤ 2 then 1 else 0) := f_in (l := 0) (m := 2) hp1 (r32i (by omega) (by omega)) (r32i (by omega) (by omega))
  have hneed : fX5_needSetting (iv c) = some (if 0 ≤ c ∧ c ≤ 2 then 0 else 1) := by
    unfold fX5_needSetting
    rw [a1, bw_b1_s, ite_01]
    split <;> rfl
  unfold fX5_setting fX6_setting fX6_fails
  simp only [hneed, a2, bw_b1_s, bw_b2_s, ite_10, ite_01]
  by_cases c2 : 0 ≤ c ∧ c ≤ 2
  · obtain ⟨e, rfl, he⟩ := isN c2
    rw [if_pos c2, if_pos c2, thn0, x_valueOf h.1 (by omega), bw_b1_s, h.Z.rS (by omega), bw_b1_s]
    exact bOk_s (bOk_s (.inl ⟨rfl, rfl, rfl⟩))
  · rw [if_neg c2, if_neg c2, thn1 _ _ _ (by omega)]
    exact bOk_s (bOk_s (.inr ⟨by simp, by simp, by simp [bk1], by simp [bk1]⟩))
end
