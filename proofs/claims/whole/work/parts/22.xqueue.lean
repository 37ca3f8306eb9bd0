/- needs: 10_base 11_kit 12_refw 13_refs 14_refl 15_pay 16_order 17_charge 20_tab 21_xpay -/
/-! ===== the class: the queue of lenders ===== -/
/-- what the tables say of the state that the looks at lenders need -/
abbrev bXS (tp ts : Nat → Int32) (T : Nat → Nat → Int) (s : bSt) : Prop := (bRT tp (bT T s.2.2.1 s.2.2.2.1)) ∧ (∀ i : Nat, i < 3 → ts i = iv (s.2.2.2.2.1 i)) ∧ (∀ k : Nat, k < 6 → T k 0 = s.2.1 k 0 ∧ T k 1 = s.2.1 k 1 ∧ T k 9 = s.2.1 k 7)
theorem bXS.t {tp ts : Nat → Int32} {T : Nat → Nat → Int} {s : bSt} (h__ : bXS tp ts T s) : bRT tp (bT T s.2.2.1 s.2.2.2.1) := h__.1
theorem bXS.sS {tp ts : Nat → Int32} {T : Nat → Nat → Int} {s : bSt} (h__ : bXS tp ts T s) : ∀ i : Nat, i < 3 → ts i = iv (s.2.2.2.2.1 i) := h__.2.1
theorem bXS.e {tp ts : Nat → Int32} {T : Nat → Nat → Int} {s : bSt} (h__ : bXS tp ts T s) : ∀ k : Nat, k < 6 → T k 0 = s.2.1 k 0 ∧ T k 1 = s.2.1 k 1 ∧ T k 9 = s.2.1 k 7 := h__.2.2
theorem ts_g {ts : Nat → Int32} {S : Nat → Int} (h : ∀ i : Nat, i < 3 → ts i = iv (S i)) (c : Nat) (hc : c < 3) : fX3_get 3 3 ts 0 (OfNat.ofNat c) = some (iv (S c)) := by
  rw [iv_castv c, show (3 : Int32) = iv 3 from rfl, show (0 : Int32) = iv 0 from rfl, t_get (i := c) (by omega) (by omega) (by omega), h c hc]
abbrev bRQ (tq : Nat → Int32) (l : List Nat) (c w : Nat → Int) : Prop := (∀ (i : Nat) (h : i < l.length), tq (3 * i) = iv l[i]) ∧ (∀ (i : Nat) (h : i < l.length), tq (3 * i + 1) = iv (c l[i])) ∧ (∀ (i : Nat) (h : i < l.length), tq (3 * i + 2) = iv (w l[i]))
theorem bRQ.n {tq : Nat → Int32} {l : List Nat} {c w : Nat → Int} (h__ : bRQ tq l c w) : ∀ (i : Nat) (h : i < l.length), tq (3 * i) = iv l[i] := h__.1
theorem bRQ.fd {tq : Nat → Int32} {l : List Nat} {c w : Nat → Int} (h__ : bRQ tq l c w) : ∀ (i : Nat) (h : i < l.length), tq (3 * i + 1) = iv (c l[i]) := h__.2.1
theorem bRQ.w {tq : Nat → Int32} {l : List Nat} {c w : Nat → Int} (h__ : bRQ tq l c w) : ∀ (i : Nat) (h : i < l.length), tq (3 * i + 2) = iv (w l[i]) := h__.2.2
theorem bins_split {w : Nat → Int} {j : Nat} : ∀ {l : List Nat}, l.Pairwise (bah w) → ∃ A B, l = A ++ B ∧ bins w j l = A ++ j :: B ∧ (∀ x ∈ A, w j ≤ w x) ∧ ∀ x ∈ B, w x < w j := by
  intro l
  induction l with
  | nil => intro _; exact ⟨[], [], rfl, rfl, (fun x hx => by cases hx), (fun x hx => by cases hx)⟩
  | cons x xs ih =>
    intro h
    have h1 := List.pairwise_cons.mp h
    by_cases c : w j ≤ w x
    · obtain ⟨A, B, e1, e2, e3, e4⟩ := ih h1.2
      refine ⟨x :: A, B, by rw [e1]; rfl, ?_, fun y hy => ?_, e4⟩
      · unfold bins; rw [if_pos c, e2]; rfl
      · rcases List.mem_cons.mp hy with rfl | hy
        · exact c
        · exact e3 y hy
    · refine ⟨[], x :: xs, rfl, ?_, (fun y hy => by cases hy), fun y hy => ?_⟩
      · unfold bins; rw [if_neg c]; rfl
      · rcases List.mem_cons.mp hy with rfl | hy
        · omega
        · have := h1.1 y hy
          unfold bah at this
          omega
theorem l_ins (p : Nat) (hp : p ≤ 5) : ∀ (d n : Nat) (tq : Nat → Int32), d ≤ 15 - 3 * p → d < n → ∃ tq', lX3_insertRow_17 18 3 (iv ((3 * (p + 1) : Nat) : Int)) n tq (iv (((3 * (p + 1) + d : Nat) : Int) - 1)) = some tq' ∧ ∀ j, tq' j = if 3 * (p + 1) ≤ j ∧ j < 3 * (p + 1) + d then tq (j - 3) else tq j := by
  intro d
  induction d with
  | zero =>
    intro n tq hd hn
    cases n with
    | zero => omega
    | succ n =>
      refine ⟨tq, ?_, fun j => by rw [if_neg (by omega)]⟩
      show bX3_insertRow_17 18 3 (lX3_insertRow_17 18 3 (iv ((3 * (p + 1) : Nat) : Int)) n) (iv ((3 * (p + 1) : Nat) : Int)) tq (iv (((3 * (p + 1) + 0 : Nat) : Int) - 1)) = _
      unfold bX3_insertRow_17
      rw [ite_lt (r32i (by omega) (by omega)) (r32n (by omega)), if_pos (by omega)]
  | succ d ih =>
    intro n tq hd hn
    cases n with
    | zero => omega
    | succ n =>
      obtain ⟨tq', e1, e2⟩ := ih n (upd tq (3 * (p + 1) + d) (tq (3 * (p + 1) + d - 3))) (by omega) (by omega)
      refine ⟨tq', ?_, fun j => ?_⟩
      · show bX3_insertRow_17 18 3 (lX3_insertRow_17 18 3 (iv ((3 * (p + 1) : Nat) : Int)) n) (iv ((3 * (p + 1) : Nat) : Int)) tq (iv (((3 * (p + 1) + (d + 1) : Nat) : Int) - 1)) = _
        unfold bX3_insertRow_17
        rw [show ((3 * (p + 1) + (d + 1) : Nat) : Int) - 1 = ((3 * (p + 1) + d : Nat) : Int) by omega]
        rw [ite_lt (r32n (by omega)) (r32n (by omega)), if_neg (by omega), show (3 : Int32) = iv 3 from rfl, ite_lt (r32n (by omega)) (r32i (by omega) (by omega)), if_neg (by omega)]
        rw [iv_sub, iv_rd (by omega) (by omega) (by omega), bw_b1_s, iv_wr (by omega) (by omega) (by omega), bw_b1_s, bw_let_s, show (-1 : Int32) = iv (-1) from rfl, iv_add]
        rw [show (((3 * (p + 1) + d : Nat) : Int) - 3).toNat = 3 * (p + 1) + d - 3 by omega]
        exact e1
      · rw [e2]
        by_cases c : j = 3 * (p + 1) + d
        · subst c; rw [if_neg (by omega), if_pos (by omega), upd_self]
        · by_cases c2 : 3 * (p + 1) ≤ j ∧ j < 3 * (p + 1) + d
          · rw [if_pos c2, if_pos (by omega), upd_ne _ _ (by omega)]
          · rw [if_neg c2, if_neg (by omega), upd_ne _ _ c]
theorem x_insertRow (p : Nat) (hp : p ≤ 5) (tq : Nat → Int32) : ∃ tq', fX3_insertRow 18 3 tq (iv p) = some tq' ∧ ∀ j, tq' j = if 3 * (p + 1) ≤ j ∧ j < 18 then tq (j - 3) else tq j := by
  obtain ⟨tq', e1, e2⟩ := l_ins p hp (15 - 3 * p) bw_fu tq (by omega) (by unfold bw_fu; omega)
  refine ⟨tq', ?_, fun j => ?_⟩
  · unfold fX3_insertRow
    rw [bw_let_s, bw_let_s, iv_succ, show (3 : Int32) = iv 3 from rfl, iv_mul, show ((p + 1 : Nat) : Int) * 3 = ((3 * (p + 1) : Nat) : Int) by omega]
    rw [show (Int32.ofNat 18 - 1) = iv (((3 * (p + 1) + (15 - 3 * p) : Nat) : Int) - 1) by rw [show 3 * (p + 1) + (15 - 3 * p) = 18 by omega]; rfl]
    exact e1
  · rw [e2, show 3 * (p + 1) + (15 - 3 * p) = 18 by omega]
section
variable {tp ts : Nat → Int32} {T : Nat → Nat → Int} {s : bSt}
theorem x_isOpen (h : bXS tp ts T s) {k : Nat} (hk : k < 6) (ho : s.2.1 k 7 = 0 ∨ s.2.1 k 7 = 1) : fX0_isOpen tp (iv k) = some (if s.2.1 k 7 = 1 then 1 else 0) := by
  have e : bT T s.2.2.1 s.2.2.2.1 k 9 = s.2.1 k 7 := (h.e k hk).2.2
  unfold fX0_isOpen
  rw [h.t.g hk 9 (by omega), bw_b1_s, e, show (1 : Int32) = iv 1 from rfl, ite_iv (by unfold r32; omega) (by unfold r32; omega)]
  split <;> rfl
theorem x_lendable (h : bXS tp ts T s) (hm : bSm s) (hn : s.1 ≤ 6) {k : Nat} (hk : k < s.1) {less : Int} (hl : 0 ≤ less ∧ less ≤ 1000000) : fX0_lendableDays tp ts (iv k) (iv less) = some (iv (max 0 (s.2.2.1 k - less - s.2.1 k 1 * s.2.2.2.2.1 1 / 100))) := by
  have hk6 : k < 6 := by omega
  have h1 := bkept (hm.bf k hk) hm.s1
  have h2 := hm.lf k hk
  have e1 : bT T s.2.2.1 s.2.2.2.1 k 1 = s.2.1 k 1 := (h.e k hk6).2.1
  have e2 : bT T s.2.2.1 s.2.2.2.1 k 2 = s.2.2.1 k := rfl
  unfold fX0_lendableDays
  rw [h.t.g hk6 1 (by omega), bw_b1_s, ts_g h.sS 1 (by omega), bw_b1_s, bw_let_s, h.t.g hk6 2 (by omega), bw_b1_s, e1, e2, iv_mul, show (100 : Int32) = iv 100 from rfl, iv_div h1.1 (by omega) (by omega) (by omega), iv_sub, iv_sub, show (0 : Int32) = iv 0 from rfl, iv_max (r32i (by omega) (by omega)) (r32i (by omega) (by omega))]
theorem bcl_open {k : Nat} (ho : s.2.1 k 7 = 1) : max 0 (s.2.2.1 k - 0 - s.2.1 k 1 * s.2.2.2.2.1 1 / 100) = bcl s k := by
  unfold bcl
  split <;> omega
theorem x_weight (h : bXS tp ts T s) (hm : bSm s) (hn : s.1 ≤ 6) {k : Nat} (hk : k < s.1) : fX0_weightOfLender tp ts (iv k) (iv (bcl s k)) = some (iv (bme s k)) := by
  have hk6 : k < 6 := by omega
  have hs0 := hm.s0
  have e1 : bT T s.2.2.1 s.2.2.2.1 k 0 = s.2.1 k 0 := (h.e k hk6).1
  have e2 : bT T s.2.2.1 s.2.2.2.1 k 5 = blent k s.2.2.2.1 := rfl
  unfold fX0_weightOfLender
  rw [show fX3_get 3 3 ts 0 0 = some (iv (s.2.2.2.2.1 0)) from ts_g h.sS 0 (by omega), bw_b1_s, show fX3_get 84 14 tp (iv k) 0 = some (iv (bT T s.2.2.1 s.2.2.2.1 k 0)) from h.t.g hk6 0 (by omega), bw_b1_s, h.t.g hk6 5 (by omega), bw_b1_s, e1, e2, iv_neg]
  rw [show (0 : Int32) = iv 0 from rfl, show (1 : Int32) = iv 1 from rfl, ite_iv (r32i (by omega) (by omega)) (r32i (by omega) (by omega)), ite_iv (r32i (by omega) (by omega)) (r32i (by omega) (by omega))]
  unfold bme
  split
  · rfl
  · split <;> rfl
theorem l_qplace {k4 : bw_A1 → Int32 → Int32 → Option (Int32 × bw_A1)} {tq : bw_A1} {np x1 x2 x3 x4 : Int32} {l : List Nat} {c w : Nat → Int} (hq : bRQ tq l c w) (hl : l.length ≤ 6) (hw : ∀ x ∈ l, r32 (w x)) {wj : Int} (hwj : r32 wj) {p : Nat} (hp1 : ∀ i (h : i < l.length), p ≤ i → w l[i] < wj) (hp2 : ∀ i (h : i < l.length), i < p → wj ≤ w l[i]) : ∀ (d n : Nat), p + d ≤ l.length → d < n → lX0_queueLenders_54 k4 tp ts tq np x1 x2 x3 x4 (iv wj) n (iv ((p + d : Nat) : Int)) = jX0_queueLenders_82 k4 tp ts tq np x1 x2 x3 x4 (iv wj) (iv p) := by
  intro d
  induction d with
  | zero =>
    intro n hd hn
    cases n with
    | zero => omega
    | succ n =>
      show bX0_queueLenders_54 k4 (lX0_queueLenders_54 k4 tp ts tq np x1 x2 x3 x4 (iv wj) n) tp ts tq np x1 x2 x3 x4 (iv wj) (iv p) = _
      unfold bX0_queueLenders_54
      rw [show (0 : Int32) = iv 0 from rfl, ite_le (r32n (by omega)) (r32i (by omega) (by omega))]
      by_cases c0 : (p : Int) ≤ 0
      · rw [if_pos c0]
      · rw [if_neg c0, show (1 : Int32) = iv 1 from rfl, iv_sub, show (2 : Int32) = iv 2 from rfl, show (3 : Int32) = iv 3 from rfl, t_get (i := 3 * (p - 1) + 2) (by omega) (by omega) (by omega), bw_b1_s, hq.w (p - 1) (by omega), ite_le hwj (hw _ (List.getElem_mem _)), if_pos (hp2 (p - 1) (by omega) (by omega))]
  | succ d ih =>
    intro n hd hn
    cases n with
    | zero => omega
    | succ n =>
      show bX0_queueLenders_54 k4 (lX0_queueLenders_54 k4 tp ts tq np x1 x2 x3 x4 (iv wj) n) tp ts tq np x1 x2 x3 x4 (iv wj) (iv ((p + (d + 1) : Nat) : Int)) = _
      unfold bX0_queueLenders_54
      rw [show (0 : Int32) = iv 0 from rfl, ite_le (r32n (by omega)) (r32i (by omega) (by omega)), if_neg (by omega)]
      rw [show (1 : Int32) = iv 1 from rfl, iv_sub, show (2 : Int32) = iv 2 from rfl, show (3 : Int32) = iv 3 from rfl, t_get (i := 3 * (p + d) + 2) (by omega) (by omega) (by omega), bw_b1_s, hq.w (p + d) (by omega), ite_le hwj (hw _ (List.getElem_mem _)), if_neg (by have := hp1 (p + d) (by omega) (by omega); omega)]
      rw [bw_let_s, iv_neg, iv_add, show ((p + (d + 1) : Nat) : Int) + -1 = ((p + d : Nat) : Int) by omega]
      exact ih n (by omega) (by omega)
/-- the lenders of k among the projects below j, in their order -/
def bqu (s : bSt) (k j : Nat) : List Nat := bord (bme s) (fun j => j ≠ k ∧ 0 < bcl s j) j
theorem bRQ_ins {tq tq' : Nat → Int32} {A B : List Nat} {j : Nat} {c w : Nat → Int} (hq : bRQ tq (A ++ B) c w) (hl : A.length + B.length ≤ 5) (e : ∀ i, tq' i = if 3 * (A.length + 1) ≤ i ∧ i < 18 then tq (i - 3) else tq i) : bRQ (upd (upd (upd tq' (3 * A.length) (iv j)) (3 * A.length + 1) (iv (c j))) (3 * A.length + 2) (iv (w j))) (A ++ j :: B) c w := by
  have hg : ∀ (i : Nat) (hi : i < (A ++ j :: B).length), (i < A.length ∧ ∃ h' : i < (A ++ B).length, (A ++ j :: B)[i] = (A ++ B)[i]) ∨ (i = A.length ∧ (A ++ j :: B)[i] = j) ∨ (A.length < i ∧ i < 6 ∧ ∃ h' : i - 1 < (A ++ B).length, (A ++ j :: B)[i] = (A ++ B)[i - 1]) := by
    intro i hi
    have hi2 := hi
    rw [List.length_append, List.length_cons] at hi2
    by_cases c1 : i < A.length
    · left
      refine ⟨c1, by rw [List.length_append]; omega, ?_⟩
      rw [List.getElem_append_left c1, List.getElem_append_left c1]
    · by_cases c2 : i = A.length
      · right; left
        subst c2
        exact ⟨rfl, by simp⟩
      · right; right
        refine ⟨by omega, by omega, by rw [List.length_append]; omega, ?_⟩
        rw [List.getElem_append_right (by omega), List.getElem_append_right (by omega), List.getElem_cons, dif_neg (by omega)]
        congr 1
        omega
  refine ⟨fun i hi => ?_, fun i hi => ?_, fun i hi => ?_⟩
  · rcases hg i hi with ⟨c1, h', e1⟩ | ⟨c1, e1⟩ | ⟨c1, c2, h', e1⟩
    · rw [upd_ne _ _ (by omega), upd_ne _ _ (by omega), upd_ne _ _ (by omega), e, if_neg (by omega), e1]; exact hq.n i h'
    · rw [e1, c1, upd_ne _ _ (by omega), upd_ne _ _ (by omega), upd_self]
    · rw [upd_ne _ _ (by omega), upd_ne _ _ (by omega), upd_ne _ _ (by omega), e, if_pos (by omega), e1, show 3 * i - 3 = 3 * (i - 1) by omega]; exact hq.n (i - 1) h'
  · rcases hg i hi with ⟨c1, h', e1⟩ | ⟨c1, e1⟩ | ⟨c1, c2, h', e1⟩
    · rw [upd_ne _ _ (by omega), upd_ne _ _ (by omega), upd_ne _ _ (by omega), e, if_neg (by omega), e1]; exact hq.fd i h'
    · rw [e1, c1, upd_ne _ _ (by omega), upd_self]
    · rw [upd_ne _ _ (by omega), upd_ne _ _ (by omega), upd_ne _ _ (by omega), e, if_pos (by omega), e1, show 3 * i + 1 - 3 = 3 * (i - 1) + 1 by omega]; exact hq.fd (i - 1) h'
  · rcases hg i hi with ⟨c1, h', e1⟩ | ⟨c1, e1⟩ | ⟨c1, c2, h', e1⟩
    · rw [upd_ne _ _ (by omega), upd_ne _ _ (by omega), upd_ne _ _ (by omega), e, if_neg (by omega), e1]; exact hq.w i h'
    · rw [e1, c1, upd_self]
    · rw [upd_ne _ _ (by omega), upd_ne _ _ (by omega), upd_ne _ _ (by omega), e, if_pos (by omega), e1, show 3 * i + 2 - 3 = 3 * (i - 1) + 2 by omega]; exact hq.w (i - 1) h'
theorem l_queue (h : bXS tp ts T s) (hm : bSm s) (hn6 : s.1 ≤ 6) (hlt : ∀ k, 0 ≤ blent k s.2.2.2.1 ∧ blent k s.2.2.2.1 ≤ 2000000000) {k : Nat} (hk : k < s.1) : ∀ (d n j : Nat) (tq : bw_A1), j + d = s.1 → d < n → bRQ tq (bqu s k j) (bcl s) (bme s) → bOk (lX0_queueLenders_4 tp ts (iv s.1) (iv k) n tq (iv (bqu s k j).length) (iv j)) fun r => r.1 = iv (bqu s k s.1).length ∧ bRQ r.2 (bqu s k s.1) (bcl s) (bme s) := by
  intro d
  induction d with
  | zero =>
    intro n j tq hj hn hq
    cases n with
    | zero => omega
    | succ n =>
      have ej : j = s.1 := by omega
      subst ej
      show bOk (bX0_queueLenders_4 (lX0_queueLenders_4 tp ts (iv s.1) (iv k) n) tp ts (iv s.1) (iv k) tq (iv (bqu s k s.1).length) (iv s.1)) _
      unfold bX0_queueLenders_4
      rw [ite_le (r32n (by omega)) (r32n (by omega)), if_pos (by omega)]
      exact bOk_s ⟨rfl, hq⟩
  | succ d ih =>
    intro n j tq hj hn hq
    cases n with
    | zero => omega
    | succ n =>
      have hjn : j < s.1 := by omega
      have hc := bcl_r hm hjn
      have hsk : ¬(j ≠ k ∧ 0 < bcl s j) → bOk (jX0_queueLenders_129 (lX0_queueLenders_4 tp ts (iv s.1) (iv k) n) tp ts tq (iv s.1) (iv k) (iv (bqu s k j).length) (iv j)) fun r => r.1 = iv (bqu s k s.1).length ∧ bRQ r.2 (bqu s k s.1) (bcl s) (bme s) := by
        intro hnc
        have e : bqu s k (j + 1) = bqu s k j := by
          unfold bqu
          show (if j ≠ k ∧ 0 < bcl s j then _ else _) = _
          rw [if_neg hnc]
        have := ih n (j + 1) tq (by omega) (by omega) (by rw [e]; exact hq)
        rw [e] at this
        unfold jX0_queueLenders_129
        rw [bw_let_s, iv_succ]
        exact this
      show bOk (bX0_queueLenders_4 (lX0_queueLenders_4 tp ts (iv s.1) (iv k) n) tp ts (iv s.1) (iv k) tq (iv (bqu s k j).length) (iv j)) _
      unfold bX0_queueLenders_4 jX0_queueLenders_34 jX0_queueLenders_35
      rw [if_pos (show (0 : Int32) ≤ 0 by decide)]
      rw [ite_le (r32n (by omega)) (r32n (by omega)), if_neg (by omega), ite_iv (r32n (by omega)) (r32n (by omega))]
      by_cases c1 : j = k
      · rw [if_pos (by omega)]
        exact hsk fun q => q.1 c1
      · rw [if_neg (by omega), x_isOpen h (by omega) (hm.op j hjn), bw_b1_s, ite_10]
        by_cases c2 : s.2.1 j 7 = 1
        · rw [if_pos c2, show (0 : Int32) = iv 0 from rfl, x_lendable h hm hn6 hjn (by omega), bw_b1_s, bcl_open c2, ite_le (r32i (by omega) (by omega)) (r32i (by omega) (by omega))]
          by_cases c3 : bcl s j ≤ 0
          · rw [if_pos c3]
            exact hsk fun q => by omega
          · rw [if_neg c3, x_weight h hm hn6 hjn, bw_b1_s]
            obtain ⟨A, B, e1, e2, e3, e4⟩ := bins_split (w := bme s) (j := j) (l := bqu s k j) bord_pw
            have eb : bqu s k (j + 1) = A ++ j :: B := by
              rw [← e2]
              unfold bqu
              show (if j ≠ k ∧ 0 < bcl s j then _ else _) = _
              rw [if_pos ⟨c1, by omega⟩]
            have hin : ∀ x ∈ bqu s k (j + 1), x < s.1 := fun x hx => by have := (bord_mem.mp hx).1; omega
            have hlen : (bqu s k (j + 1)).length ≤ 6 := nodup_lt 6 _ (bpw_nodup bord_pw) fun x hx => by have := hin x hx; omega
            rw [eb, List.length_append, List.length_cons] at hlen
            have hlj : (bqu s k j).length = A.length + B.length := by rw [e1, List.length_append]
            have hp := l_qplace (k4 := lX0_queueLenders_4 tp ts (iv s.1) (iv k) n) (tp := tp) (ts := ts) (np := iv s.1) (x1 := iv k) (x2 := iv (bqu s k j).length) (x3 := iv j) (x4 := iv (bcl s j)) hq (by omega) (fun x hx => bme_r hm hlt (by have := (bord_mem.mp hx).1; omega)) (bme_r hm hlt hjn) (p := A.length) (fun i hi hpi => by
              simp only [e1]
              rw [List.getElem_append_right hpi]
              exact e4 _ (List.getElem_mem _)) (fun i hi hpi => by
              simp only [e1]
              rw [List.getElem_append_left hpi]
              exact e3 _ (List.getElem_mem _)) B.length bw_fu (by omega) (by unfold bw_fu; omega)
            have hxl : iv ((bqu s k j).length : Int) = iv ((A.length + B.length : Nat) : Int) := by rw [hlj]
            rw [← hxl] at hp
            rw [hp]
            unfold jX0_queueLenders_82 jX0_queueLenders_129
            obtain ⟨tq1, e5, e6⟩ := x_insertRow A.length (by omega) tq
            rw [e5, bw_b1_s]
            rw [show fX3_put 18 3 tq1 (iv A.length) 0 (iv j) = some (upd tq1 (3 * A.length) (iv j)) from t_put (cc := 3) (c := 0) (i := 3 * A.length) (by omega) (by omega) (by omega), bw_b1_s]
            rw [show ∀ q : Nat → Int32, fX3_put 18 3 q (iv A.length) 1 (iv (bcl s j)) = some (upd q (3 * A.length + 1) (iv (bcl s j))) from fun q => t_put (cc := 3) (c := 1) (i := 3 * A.length + 1) (by omega) (by omega) (by omega), bw_b1_s]
            rw [show ∀ q : Nat → Int32, fX3_put 18 3 q (iv A.length) 2 (iv (bme s j)) = some (upd q (3 * A.length + 2) (iv (bme s j))) from fun q => t_put (cc := 3) (c := 2) (i := 3 * A.length + 2) (by omega) (by omega) (by omega), bw_b1_s]
            rw [bw_let_s, bw_let_s, iv_succ, iv_succ]
            have hq2 := bRQ_ins (j := j) (by rw [← e1]; exact hq) (by omega) e6
            have := ih n (j + 1) _ (by omega) (by omega) (by rw [eb]; exact hq2)
            rw [eb, List.length_append, List.length_cons] at this
            rw [hlj]
            exact this
        · rw [if_neg c2]
          refine hsk fun q => ?_
          have : bcl s j = 0 := if_neg fun x => c2 x.1
          omega
theorem x_queue (h : bXS tp ts T s) (hm : bSm s) (hn6 : s.1 ≤ 6) (hlt : ∀ k, 0 ≤ blent k s.2.2.2.1 ∧ blent k s.2.2.2.1 ≤ 2000000000) {k : Nat} (hk : k < s.1) (tq : bw_A1) : bOk (fX0_queueLenders tp ts tq (iv s.1) (iv k)) fun r => r.1 = iv (bl4 s k).length ∧ bRQ r.2 (bl4 s k) (bcl s) (bme s) :=
  l_queue h hm hn6 hlt hk s.1 bw_fu 0 tq (by omega) (by unfold bw_fu; omega) ⟨fun i hi => absurd hi (by simp [bqu, bord]), fun i hi => absurd hi (by simp [bqu, bord]), fun i hi => absurd hi (by simp [bqu, bord])⟩
end
